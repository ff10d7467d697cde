/-! signs, as the class finds them -/
theorem zSga {N : Nat → Nat} {T : Nat → Nat → Int32} {a1 a2 : Int32} (h0 : 0 ≤ a2) (hl : sLen (T (20 + a1.toNatClampNeg)) (N (20 + a1.toNatClampNeg)) ≤ 40) : (if 0 ≤ a2 ∧ a2 < nI (sLen (T (20 + a1.toNatClampNeg)) (N (20 + a1.toNatClampNeg))) then sSgn (T (20 + a1.toNatClampNeg)) (N (20 + a1.toNatClampNeg)) a2.toNatClampNeg else -1) = rSignAt N T a1 a2 false := by
  rw [rSignAt]
  by_cases c : nI (rSigns N T a1.toNatClampNeg) ≤ a2
  · rw [if_pos c, if_neg]
    intro z
    exact Int32.not_lt.mpr c z.2
  · rw [if_neg c, if_pos ⟨h0, Int32.not_le.mp c⟩]
    rfl
theorem zSgb {N : Nat → Nat} {T : Nat → Nat → Int32} {a1 a2 : Int32} (h0 : 0 ≤ a2) (hl : sLen (T (20 + a1.toNatClampNeg)) (N (20 + a1.toNatClampNeg)) ≤ 40) : (if 0 ≤ nI (sLen (T (20 + a1.toNatClampNeg)) (N (20 + a1.toNatClampNeg))) - 1 - a2 ∧ nI (sLen (T (20 + a1.toNatClampNeg)) (N (20 + a1.toNatClampNeg))) - 1 - a2 < nI (sLen (T (20 + a1.toNatClampNeg)) (N (20 + a1.toNatClampNeg))) then sSgn (T (20 + a1.toNatClampNeg)) (N (20 + a1.toNatClampNeg)) (nI (sLen (T (20 + a1.toNatClampNeg)) (N (20 + a1.toNatClampNeg))) - 1 - a2).toNatClampNeg else -1) = rSignAt N T a1 a2 true := by
  rw [rSignAt, show rSigns N T a1.toNatClampNeg = sLen (T (20 + a1.toNatClampNeg)) (N (20 + a1.toNatClampNeg)) from rfl]
  generalize sLen (T (20 + a1.toNatClampNeg)) (N (20 + a1.toNatClampNeg)) = n at hl
  have z0 : (0 : Int32).toInt = 0 := by decide
  obtain ⟨j, hj, rfl⟩ := nI_of (x := a2) (Int32.not_lt.mpr h0)
  by_cases c : n ≤ j
  · rw [if_pos ((nI_leI (by omega) hj).mpr c), if_neg]
    intro z
    have h1 : nI n - 1 - nI j < 0 := by
      cases n with
      | zero =>
        rw [Int32.lt_iff_toInt_lt, z0]
        have : (nI 0 - 1 - nI j).toInt = -1 - j := by
          rw [show nI 0 - 1 = -1 from by decide, Int32.toInt_sub, nI_toInt hj, show (-1 : Int32).toInt = -1 from by decide]
          exact Int.bmod_eq_of_le (by omega) (by omega)
        omega
      | succ k =>
        rw [nI_pred, Int32.lt_iff_toInt_lt, z0]
        have : (nI k - nI j).toInt = k - j := by
          rw [Int32.toInt_sub, nI_toInt hj, nI_toInt (by omega)]
          exact Int.bmod_eq_of_le (by omega) (by omega)
        omega
    exact absurd z.1 (Int32.not_le.mpr h1)
  · rw [if_neg (fun z => c ((nI_leI (by omega) hj).mp z))]
    obtain ⟨k, rfl⟩ : ∃ k, n = k + 1 := ⟨n - 1, by omega⟩
    rw [nI_pred, pk_sub (by omega), nI_clamp (by omega), nI_clamp hj, if_pos ⟨(nI_leI (a := 0) (by omega) (by omega)).mpr (by omega), nI_lt (by omega) (by omega)⟩]
    rfl
