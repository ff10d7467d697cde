/-! signs that are laid -/
theorem zShl10 : ∀ n, n < 1024 → nI n <<< ((10 : Int32) &&& 31) = nI n * 1024 := by decide +kernel
theorem zHiN {a : Int32} (h : sHi a = true) : ∃ j, 55296 ≤ j ∧ j ≤ 56319 ∧ a = nI j := by
  simp only [sHi, Bool.and_eq_true, decide_eq_true_eq] at h
  have a1 : (55296 : Int32).toInt = 55296 := by decide
  have a3 : (0 : Int32).toInt = 0 := by decide
  have h3 : ¬ a < 0 := by
    rw [Int32.lt_iff_toInt_lt, a3]
    have := h.1
    rw [Int32.le_iff_toInt_le, a1] at this
    omega
  obtain ⟨j, hj, rfl⟩ := nI_of2 (M := 56319) (n := 56319) (by decide) h3 h.2
  have := h.1
  rw [Int32.le_iff_toInt_le, a1, nI_toInt (by omega)] at this
  exact ⟨j, by omega, hj, rfl⟩
theorem zJoin {a b : Int32} (h : sHi a = true) : 65536 + ((a - 55296) <<< ((10 : Int32) &&& 31)) + (b - 56320) = sPair a b := by
  obtain ⟨j, h1, h2, rfl⟩ := zHiN h
  rw [sPair, show (55296 : Int32) = nI 55296 from rfl, pk_sub h1, zShl10 _ (by omega), Int32.sub_eq_add_neg, Int32.sub_eq_add_neg, Int32.add_assoc, Int32.add_assoc, Int32.add_assoc]
theorem sLenC {t : Nat → Int32} : ∀ {n : Nat}, sLen t n + sCnt (fun k => sHi (t k)) n = n
  | 0 => rfl
  | n + 1 => by
    have := sLenC (t := t) (n := n)
    rw [sLen, sCnt]
    split <;> omega
theorem zLenC {t : Nat → Int32} {n : Nat} : nI n - nI (sCnt (fun k => sHi (t k)) n) = nI (sLen t n) := by
  have := sLenC (t := t) (n := n)
  rw [pk_sub (by omega)]
  congr 1
  omega
theorem sLen_m {t : Nat → Int32} {a : Nat} : ∀ {b : Nat}, a ≤ b → sLen t a ≤ sLen t b
  | 0, h => by
    have : a = 0 := by omega
    subst this
    exact Nat.le_refl _
  | b + 1, h => by
    by_cases c : a = b + 1
    · subst c; exact Nat.le_refl _
    · have := sLen_m (t := t) (b := b) (a := a) (by omega)
      rw [sLen]
      split <;> omega
theorem zLenEnd {t : Nat → Int32} {n k : Nat} (hg : sGood t n = true) (hk : k ≤ n) (h : sLen t n ≤ sLen t k) : k = n := by
  by_cases c : k = n
  · exact c
  · obtain ⟨j, rfl⟩ : ∃ j, n = j + 1 := ⟨n - 1, by omega⟩
    have h1 : sHi (t j) = false := by
      simp only [sGood, Bool.and_eq_true, Bool.not_eq_true'] at hg
      exact hg.2
    have h2 := sLen_m (t := t) (a := k) (b := j) (by omega)
    rw [← sLen_s h1] at h
    omega
theorem zSg1 {t : Nat → Int32} {k : Nat} (h : sHi (t k) = false) (hw : sW t k = false) : upd (sSgn t k) (sLen t k) (t k) = sSgn t (k + 1) := by
  rw [sSgn, if_neg (by rw [h]; decide), hw]
  rfl
theorem zSg2 {t : Nat → Int32} {k : Nat} (h : sHi (t k) = true) (h2 : sHi (t (k + 1)) = false) : upd (sSgn t k) (sLen t k) (sPair (t k) (t (k + 1))) = sSgn t (k + 2) := by
  rw [sSgn, if_neg (by rw [h2]; decide), sSgn, if_pos h, sLen, if_pos h, sW, h]
  rfl
/-! who is called, by the signs as by the text -/
theorem sPair_big {a b : Int32} (h : sHi a = true) (h2 : sLo b = true) : ¬ sPair a b = 64 ∧ ¬ (48 ≤ sPair a b ∧ sPair a b ≤ 56) := by
  obtain ⟨j, h1, h3, rfl⟩ := zHiN h
  simp only [sLo, Bool.and_eq_true, decide_eq_true_eq] at h2
  have a1 : (56320 : Int32).toInt = 56320 := by decide
  have a0 : (0 : Int32).toInt = 0 := by decide
  have h4 : ¬ b < 0 := by
    rw [Int32.lt_iff_toInt_lt, a0]
    have := h2.1
    rw [Int32.le_iff_toInt_le, a1] at this
    omega
  obtain ⟨y, hy, rfl⟩ := nI_of2 (M := 57343) (n := 57343) (by decide) h4 h2.2
  have h5 := h2.1
  rw [Int32.le_iff_toInt_le, a1, nI_toInt (by omega)] at h5
  have e : sPair (nI j) (nI y) = nI (65536 + (j - 55296) * 1024 + (y - 56320)) := by
    rw [sPair, show (55296 : Int32) = nI 55296 from rfl, pk_sub h1, show (1024 : Int32) = nI 1024 from rfl, pk_mul, show (65536 : Int32) = nI 65536 from rfl, nI_add, nI_add, show (56320 : Int32) = nI 56320 from rfl, pk_sub (by omega)]
    exact congrArg nI (by omega)
  rw [e]
  constructor
  · intro z
    have := (nI_eq (by omega) (by omega)).mp (show nI _ = nI 64 from z)
    omega
  · intro z
    have := (nI_leI (by omega) (by omega)).mp (show nI _ ≤ nI 56 from z.2)
    omega
theorem zHi_sm {v : Int32} (h : sHi v = true) : ¬ v = 64 ∧ ¬ (48 ≤ v ∧ v ≤ 56) := by
  obtain ⟨j, h1, h2, rfl⟩ := zHiN h
  constructor
  · intro z
    have := (nI_eq (by omega) (by omega)).mp (show nI _ = nI 64 from z)
    omega
  · intro z
    have := (nI_leI (by omega) (by omega)).mp (show nI _ ≤ nI 56 from z.2)
    omega
theorem zLo_sm {v : Int32} (h : sLo v = true) : ¬ v = 64 ∧ ¬ (48 ≤ v ∧ v ≤ 56) := by
  simp only [sLo, Bool.and_eq_true, decide_eq_true_eq, Int32.le_iff_toInt_le, show (56320 : Int32).toInt = 56320 from by decide, show (57343 : Int32).toInt = 57343 from by decide] at h
  constructor
  · intro z
    rw [z, show (64 : Int32).toInt = 64 from by decide] at h
    omega
  · intro z
    have z2 := z.2
    rw [Int32.le_iff_toInt_le, show (56 : Int32).toInt = 56 from by decide] at z2
    omega
theorem sMeantTo_cg {s u : Nat → Int32} : ∀ {k : Nat}, (∀ j, j ≤ k → s j = u j) → sMeantTo s k = sMeantTo u k
  | 0, _ => rfl
  | k + 1, h => by
    rw [sMeantTo, sMeantTo, sMeantTo_cg (k := k) (fun j hj => h j (by omega)), sCalls, sCalls, h k (by omega), h (k + 1) (by omega)]
theorem sMeantTo_no {t : Nat → Int32} {k : Nat} (h : sCalls t k = false) : sMeantTo t (k + 1) = sMeantTo t k := by
  rw [sMeantTo, if_neg (by rw [h]; decide)]
theorem sCalls_a {t : Nat → Int32} {k : Nat} (h : ¬ t k = 64) : sCalls t k = false := by
  rw [sCalls, decide_eq_false h]
  rfl
theorem sCalls_b {t : Nat → Int32} {k : Nat} (h : ¬ (48 ≤ t (k + 1) ∧ t (k + 1) ≤ 56)) : sCalls t k = false := by
  rw [sCalls]
  by_cases a : 48 ≤ t (k + 1)
  · rw [decide_eq_true a, decide_eq_false (fun b => h ⟨a, b⟩)]
    simp
  · rw [decide_eq_false a]
    simp
/-- the whole signs of a text's first k + 1 characters call whom these call; the last sign is the last character, or neither is a digit or '@' -/
theorem sMeant_sg {t : Nat → Int32} {n : Nat} (hg : sGood t n = true) : ∀ (m k : Nat), k ≤ m → k < n → sHi (t k) = false →
    sMeantTo (sSgn t (k + 1)) (sLen t (k + 1) - 1) = sMeantTo t k ∧ 0 < sLen t (k + 1) ∧ (sSgn t (k + 1) (sLen t (k + 1) - 1) = t k ∨ (¬ sSgn t (k + 1) (sLen t (k + 1) - 1) = 64 ∧ ¬ t k = 64)) := by
  intro m
  induction m with
  | zero =>
    intro k hk hn hi
    have : k = 0 := by omega
    subst this
    have e1 : sLen t 1 = 1 := by rw [sLen, if_neg (by rw [hi]; decide)]; rfl
    have e2 : sSgn t 1 0 = t 0 := by
      rw [sSgn, if_neg (by rw [hi]; decide)]
      exact upd_at
    rw [e1]
    exact ⟨rfl, by omega, Or.inl e2⟩
  | succ m ih =>
    intro k hk hn hi
    by_cases hkm : k ≤ m
    · exact ih k hkm hn hi
    · obtain ⟨j, rfl⟩ : ∃ j, k = j + 1 := ⟨k - 1, by omega⟩
      by_cases hj : sHi (t j) = true
      · -- a pair
        have hlo := (sGood_hi hg (by omega) hj).2
        have eL : sLen t (j + 2) = sLen t j + 1 := (sLen_p hj hi).symm
        have eS : sSgn t (j + 2) = upd (sSgn t j) (sLen t j) (sPair (t j) (t (j + 1))) := (zSg2 hj hi).symm
        have hp := sPair_big hj hlo
        rw [show j + 1 + 1 = j + 2 from rfl, eL, eS, Nat.add_sub_cancel]
        have last : upd (sSgn t j) (sLen t j) (sPair (t j) (t (j + 1))) (sLen t j) = sPair (t j) (t (j + 1)) := upd_at
        refine ⟨?_, by omega, Or.inr ⟨by rw [last]; exact hp.1, (zLo_sm hlo).1⟩⟩
        rw [sMeantTo_no (sCalls_a (zHi_sm hj).1)]
        cases j with
        | zero => rfl
        | succ i =>
          have hni : sHi (t i) = false := by
            cases hc : sHi (t i) with
            | false => rfl
            | true =>
              have := sLo_hi (sGood_hi hg (show i < n by omega) hc).2
              rw [this] at hj
              cases hj
          obtain ⟨g1, g2, g3⟩ := ih i (by omega) (by omega) hni
          rw [sMeantTo_no (k := i) (sCalls_b (zHi_sm hj).2), ← g1]
          obtain ⟨q, hq⟩ : ∃ q, sLen t (i + 1) = q + 1 := ⟨sLen t (i + 1) - 1, by omega⟩
          rw [hq, Nat.add_sub_cancel, sMeantTo_no (k := q) (sCalls_b (by rw [← hq, upd_at]; exact hp.2))]
          exact sMeantTo_cg (fun x hx => upd_no (by omega))
      · -- a character
        have hj : sHi (t j) = false := by simpa using hj
        have eL : sLen t (j + 1 + 1) = sLen t (j + 1) + 1 := (sLen_s hi).symm
        have eS : sSgn t (j + 1 + 1) = upd (sSgn t (j + 1)) (sLen t (j + 1)) (t (j + 1)) := (zSg1 hi (show sW t (j + 1) = false from hj)).symm
        obtain ⟨g1, g2, g3⟩ := ih j (by omega) (by omega) hj
        rw [eL, eS, Nat.add_sub_cancel]
        refine ⟨?_, by omega, Or.inl upd_at⟩
        obtain ⟨q, hq⟩ : ∃ q, sLen t (j + 1) = q + 1 := ⟨sLen t (j + 1) - 1, by omega⟩
        rw [hq] at g1 g3 ⊢
        rw [Nat.add_sub_cancel] at g1 g3
        have hc : sCalls (upd (sSgn t (j + 1)) (q + 1) (t (j + 1))) q = sCalls t j := by
          rw [sCalls, sCalls, upd_at, upd_no (show q ≠ q + 1 by omega)]
          rcases g3 with g3 | ⟨g3, g4⟩
          · rw [g3]
          · rw [decide_eq_false g3, decide_eq_false g4]
        rw [sMeantTo, sMeantTo, hc, upd_at, sMeantTo_cg (u := sSgn t (j + 1)) (fun x hx => upd_no (by omega)), g1]
theorem sMeant_eq {t : Nat → Int32} {n : Nat} (hg : sGood t n = true) : sMeant (sSgn t n) (sLen t n) = sMeant t n := by
  have h0 : 0 < n := by
    simp only [sGood, Bool.and_eq_true, decide_eq_true_eq] at hg
    exact hg.1.2
  obtain ⟨k, rfl⟩ : ∃ k, n = k + 1 := ⟨n - 1, by omega⟩
  have h1 : sHi (t k) = false := by
    simp only [sGood, Bool.and_eq_true, Bool.not_eq_true'] at hg
    exact hg.2
  rw [sMeant, sMeant, (sMeant_sg hg k k (Nat.le_refl _) (by omega) h1).1, Nat.add_sub_cancel]
theorem sLen_pos {t : Nat → Int32} {n : Nat} (hg : sGood t n = true) : 0 < sLen t n := by
  have h0 : 0 < n := by
    simp only [sGood, Bool.and_eq_true, decide_eq_true_eq] at hg
    exact hg.1.2
  obtain ⟨k, rfl⟩ : ∃ k, n = k + 1 := ⟨n - 1, by omega⟩
  have h1 : sHi (t k) = false := by
    simp only [sGood, Bool.and_eq_true, Bool.not_eq_true'] at hg
    exact hg.2
  exact (sMeant_sg hg k k (Nat.le_refl _) (by omega) h1).2.1
