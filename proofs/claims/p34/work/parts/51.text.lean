/-! the law's eight letters, and texts of them -/
theorem sP8_lt {D : Nat → Nat} (hD : ∀ k, D k < 8) : ∀ n, sP8 D n < 8 ^ n
  | 0 => Nat.lt_succ_self 0
  | n + 1 => by
    have h := sP8_lt hD n
    have h2 : D n * 8 ^ n ≤ 7 * 8 ^ n := Nat.mul_le_mul_right _ (by have := hD n; omega)
    rw [sP8, Nat.pow_succ]
    omega
theorem sP8_dig {D : Nat → Nat} (hD : ∀ k, D k < 8) {k : Nat} : ∀ {n : Nat}, k < n → sP8 D n / 8 ^ k % 8 = D k
  | 0, h => absurd h (Nat.not_lt_zero _)
  | n + 1, h => by
    rw [sP8]
    by_cases c : k = n
    · subst c
      rw [Nat.add_mul_div_right _ _ (Nat.pow_pos (by omega)), Nat.div_eq_of_lt (sP8_lt hD k)]
      have := hD k
      omega
    · obtain ⟨d, rfl⟩ : ∃ d, n = k + (d + 1) := ⟨n - k - 1, by omega⟩
      have e : D (k + (d + 1)) * 8 ^ (k + (d + 1)) = (8 * (D (k + (d + 1)) * 8 ^ d)) * 8 ^ k := by
        rw [Nat.pow_add, Nat.pow_succ, Nat.mul_comm (8 ^ k), ← Nat.mul_assoc, Nat.mul_comm (8 ^ d) 8, ← Nat.mul_assoc, Nat.mul_comm (D (k + (d + 1))) 8]
        simp only [Nat.mul_assoc]
      rw [e, Nat.add_mul_div_right _ _ (Nat.pow_pos (by omega))]
      have := sP8_dig hD (k := k) (n := k + (d + 1)) (by omega)
      omega
theorem sP8_mod {D : Nat → Nat} (hD : ∀ k, D k < 8) {k : Nat} : ∀ {n : Nat}, k ≤ n → sP8 D n % 8 ^ k = sP8 D k
  | 0, h => by
    obtain rfl : k = 0 := by omega
    rfl
  | n + 1, h => by
    by_cases c : k = n + 1
    · subst c
      exact Nat.mod_eq_of_lt (sP8_lt hD _)
    · obtain ⟨d, rfl⟩ : ∃ d, n = k + d := ⟨n - k, by omega⟩
      rw [sP8, Nat.pow_add, ← Nat.mul_assoc, Nat.mul_right_comm, Nat.add_mul_mod_self_right]
      exact sP8_mod hD (by omega)
theorem sP8_top {D : Nat → Nat} (hD : ∀ k, D k < 8) {n : Nat} (hn : n ≤ 9) : sP8 D n < 134217728 := by
  have h := sP8_lt hD n
  have h2 : 8 ^ n ≤ 8 ^ 9 := Nat.pow_le_pow_right (by omega) hn
  have h3 : (8 : Nat) ^ 9 = 134217728 := by decide
  omega
theorem sh3 {k : Nat} (h : k < 10) : (((3 * nI k) &&& 31 : Int32).toBitVec.smod 32).toNat = 3 * k := co_dec (N := 10) (P := fun k => (((3 * nI k) &&& 31 : Int32).toBitVec.smod 32).toNat = 3 * k) (by decide +kernel) h
theorem sh43 {k : Nat} (h : k < 9) : (((4 + 3 * nI k) &&& 31 : Int32).toBitVec.smod 32).toNat = 4 + 3 * k := co_dec (N := 9) (P := fun k => (((4 + 3 * nI k) &&& 31 : Int32).toBitVec.smod 32).toNat = 4 + 3 * k) (by decide +kernel) h
theorem p2_3 (k : Nat) : 2 ^ (3 * k) = 8 ^ k := by rw [Nat.pow_mul]
theorem sP8_at {D : Nat → Nat} {x : Int32} {n k : Nat} (hx : x = nI (sP8 D n)) (hD : ∀ k, D k < 8) (hk : k < n) (hn : n ≤ 9) : (x >>> ((3 * nI k) &&& 31)) &&& 7 = nI (D k) := by
  have hb := sP8_top hD hn
  rw [hx, pk_shrN (by omega) _ (3 * k) (sh3 (by omega)), p2_3, pk_andN (m := 7) (Nat.lt_of_le_of_lt (Nat.div_le_self _ _) (by omega)) 3 (by decide), show (2 : Nat) ^ 3 = 8 from rfl, sP8_dig hD hk]
theorem sP8_at1 {D : Nat → Nat} {x : Int32} {n k : Nat} (hx : x = nI (sP8 D n)) (hD : ∀ k, D k < 8) (hk : k + 1 < n) (hn : n ≤ 9) : (x >>> ((3 * nI k + 3) &&& 31)) &&& 7 = nI (D (k + 1)) := by
  rw [show 3 * nI k + 3 = 3 * nI (k + 1) by rw [show (3 : Int32) = nI 3 from rfl, pk_mul, pk_mul, nI_add]; rfl]
  exact sP8_at hx hD hk hn
theorem sP8_sg {D : Nat → Nat} {x : Int32} {n k : Nat} (hx : x = nI (n + 16 * sP8 D n)) (hD : ∀ k, D k < 8) (hk : k < n) (hn : n ≤ 9) : (x >>> ((4 + 3 * nI k) &&& 31)) &&& 7 = nI (D k) := by
  have hb := sP8_top hD hn
  rw [hx, pk_shrN (by omega) _ (4 + 3 * k) (sh43 (by omega)), pk_andN (m := 7) (Nat.lt_of_le_of_lt (Nat.div_le_self _ _) (by omega)) 3 (by decide), show (2 : Nat) ^ 3 = 8 from rfl, Nat.pow_add, p2_3, ← Nat.div_div_eq_div_mul, show (2 : Nat) ^ 4 = 16 from rfl, show (n + 16 * sP8 D n) / 16 = sP8 D n by omega, sP8_dig hD hk]
theorem sP8_len {D : Nat → Nat} {x : Int32} {n : Nat} (hx : x = nI (n + 16 * sP8 D n)) (hD : ∀ k, D k < 8) (hn : n ≤ 9) : x &&& 15 = nI n := by
  have hb := sP8_top hD hn
  rw [hx, pk_andN (m := 15) (by omega) 4 (by decide), show (2 : Nat) ^ 4 = 16 from rfl, show (n + 16 * sP8 D n) % 16 = n by omega]
theorem zLt_hi : ∀ {d : Nat}, d < 8 → sHi (zLt d) = decide (d = 5) := fun h => co_dec (N := 8) (P := fun d => sHi (zLt d) = decide (d = 5)) (by decide +kernel) h
theorem zLt_lo : ∀ {d : Nat}, d < 8 → sLo (zLt d) = decide (d = 6) := fun h => co_dec (N := 8) (P := fun d => sLo (zLt d) = decide (d = 6)) (by decide +kernel) h
theorem zLt_16 {d : Nat} (h : d < 8) : ∃ x : Nat, x < 65536 ∧ zLt d = nI x := by
  rcases (show d = 0 ∨ d = 1 ∨ d = 2 ∨ d = 3 ∨ d = 4 ∨ d = 5 ∨ d = 6 ∨ d = 7 by omega) with rfl | rfl | rfl | rfl | rfl | rfl | rfl | rfl
  · exact ⟨64, by omega, rfl⟩
  · exact ⟨48, by omega, rfl⟩
  · exact ⟨56, by omega, rfl⟩
  · exact ⟨57, by omega, rfl⟩
  · exact ⟨97, by omega, rfl⟩
  · exact ⟨55357, by omega, rfl⟩
  · exact ⟨56832, by omega, rfl⟩
  · exact ⟨49, by omega, rfl⟩
section TX
variable {D : Nat → Nat} {t : Nat → Int32} {n i : Nat}
theorem sTx_1 (h : sTx D t n) (hi : i < n) (hg : sG t i = true ∧ sW t i = false) (h5 : ¬ D i = 5) (h6 : ¬ D i = 6) : sG t (i + 1) = true ∧ sW t (i + 1) = false := by
  have e := h.2 i hi
  refine ⟨?_, ?_⟩
  · rw [sG, hg.1, hg.2, e, zLt_lo (h.1 i), decide_eq_false h6]; rfl
  · rw [sW, e, zLt_hi (h.1 i), decide_eq_false h5]
theorem sTx_5 (h : sTx D t n) (hi : i < n) (hg : sG t i = true ∧ sW t i = false) (h5 : D i = 5) : sG t (i + 1) = true ∧ sW t (i + 1) = true := by
  have e := h.2 i hi
  refine ⟨?_, ?_⟩
  · rw [sG, hg.1, hg.2, e, zLt_lo (h.1 i), decide_eq_false (show ¬ D i = 6 by omega)]; rfl
  · rw [sW, e, zLt_hi (h.1 i), decide_eq_true h5]
theorem sTx_2 (h : sTx D t n) (hi : i + 1 < n) (hg : sG t i = true ∧ sW t i = false) (h5 : D i = 5) (h6 : D (i + 1) = 6) : sG t (i + 2) = true ∧ sW t (i + 2) = false := by
  obtain ⟨g1, g2⟩ := sTx_5 h (by omega) hg h5
  have e := h.2 (i + 1) hi
  refine ⟨?_, ?_⟩
  · rw [sG, g1, g2, e, zLt_lo (h.1 _), decide_eq_true h6]; rfl
  · rw [sW, e, zLt_hi (h.1 _), decide_eq_false (show ¬ D (i + 1) = 5 by omega)]
theorem sTx_n6 (h : sTx D t n) (hi : i < n) (hg : sG t i = true ∧ sW t i = false) (h6 : D i = 6) : sGood t n = false :=
  sGood_no hg.1 (by omega) hi (by rw [h.2 i hi, hg.2, zLt_lo (h.1 i), decide_eq_true h6]; decide)
theorem sTx_n5 (h : sTx D t n) (hi : i + 1 = n) (hg : sG t i = true ∧ sW t i = false) (h5 : D i = 5) : sGood t n = false := by
  have g := (sTx_5 h (by omega) hg h5).2
  rw [hi] at g
  rw [sGood, g]
  simp
theorem sTx_n56 (h : sTx D t n) (hi : i + 1 < n) (hg : sG t i = true ∧ sW t i = false) (h5 : D i = 5) (h6 : ¬ D (i + 1) = 6) : sGood t n = false := by
  obtain ⟨g1, g2⟩ := sTx_5 h (by omega) hg h5
  exact sGood_no g1 (by omega) hi (by rw [h.2 (i + 1) hi, g2, zLt_lo (h.1 _), decide_eq_false h6]; decide)
/-- the signs of a whole text -/
def sSx (t : Nat → Int32) (n p : Nat) : Int32 := if p < sLen t n then sSgn t n p else -1
theorem sSgn_old {a j : Nat} (hj : j < sLen t a) : ∀ {b : Nat}, a ≤ b → sSgn t b j = sSgn t a j
  | 0, h => by
    obtain rfl : a = 0 := by omega
    rfl
  | b + 1, h => by
    by_cases c : a = b + 1
    · rw [c]
    · have h2 := sLen_m (t := t) (show a ≤ b by omega)
      rw [sSgn]
      split
      · exact sSgn_old hj (by omega)
      · rw [upd_no (by omega)]
        exact sSgn_old hj (by omega)
theorem sSx_1 (h : sTx D t n) (hi : i < n) (hw : sW t i = false) (h5 : ¬ D i = 5) : sLen t i + 1 = sLen t (i + 1) ∧ sSx t n (sLen t i) = zLt (D i) := by
  have e : sHi (t i) = false := by rw [h.2 i hi, zLt_hi (h.1 i), decide_eq_false h5]
  have l := sLen_s e
  refine ⟨l, ?_⟩
  have m := sLen_m (t := t) (show i + 1 ≤ n by omega)
  rw [sSx, if_pos (by omega), sSgn_old (a := i + 1) (by omega) (by omega), ← zSg1 e hw, upd_at, h.2 i hi]
theorem sSx_2 (h : sTx D t n) (hi : i + 1 < n) (h5 : D i = 5) (h6 : D (i + 1) = 6) : sLen t i + 1 = sLen t (i + 2) ∧ sSx t n (sLen t i) = 128512 := by
  have e : sHi (t i) = true := by rw [h.2 i (by omega), zLt_hi (h.1 i), decide_eq_true h5]
  have e2 : sHi (t (i + 1)) = false := by rw [h.2 _ hi, zLt_hi (h.1 _), decide_eq_false (show ¬ D (i + 1) = 5 by omega)]
  have l := sLen_p e e2
  refine ⟨l, ?_⟩
  have m := sLen_m (t := t) (show i + 2 ≤ n by omega)
  rw [sSx, if_pos (by omega), sSgn_old (a := i + 2) (by omega) (by omega), ← zSg2 e e2, upd_at, h.2 i (by omega), h.2 _ hi, h5, h6]
  decide
theorem sTx_ok (h : sTx D t n) (hgd : sGood t n = true) (hi : i < n) (hw : sW t i = false) : (¬ D i = 6) ∧ (D i = 5 → i + 1 < n ∧ D (i + 1) = 6) := by
  have hG : sG t n = true := by
    cases c : sG t n with
    | true => rfl
    | false => rw [sGood, c] at hgd; exact absurd hgd (by simp)
  refine ⟨fun h6 => ?_, fun h5 => ?_⟩
  · have := sG_at hG hi
    rw [hw, h.2 i hi, zLt_lo (h.1 i), decide_eq_true h6] at this
    exact absurd this (by decide)
  · obtain ⟨a, b⟩ := sGood_hi hgd hi (by rw [h.2 i hi, zLt_hi (h.1 i), decide_eq_true h5])
    refine ⟨a, ?_⟩
    rw [h.2 _ a, zLt_lo (h.1 _)] at b
    exact of_decide_eq_true b
theorem sW_1 (h : sTx D t n) (hi : i < n) (h5 : ¬ D i = 5) : sW t (i + 1) = false := by
  rw [sW, h.2 i hi, zLt_hi (h.1 i), decide_eq_false h5]
end TX
