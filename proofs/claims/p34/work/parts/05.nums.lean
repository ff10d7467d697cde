/-! rows of numbers that the reference's writing methods want -/
theorem zn_nar {b : Bool} : vp_nar .boolean (zb b) = zb b := by cases b <;> rfl
theorem zn_char {x : Int32} (h : ∃ k : Nat, k < 65536 ∧ x = nI k) : vp_nar .char x = x := by
  obtain ⟨k, hk, rfl⟩ := h
  have := (pk_charN hk).1
  unfold vp_nar
  rw [this]
theorem zW {a : Int32} (h : vp_in a 9) : ∃ w : Nat, w ≤ 9 ∧ a + 1 = nI w := by
  obtain ⟨j, hj, rfl⟩ := vp_in_of h (by omega)
  exact ⟨j + 1, by omega, nI_1 j⟩
theorem zX {a : Int32} {n : Nat} (h : vp_in a n) (hn : n ≤ 100) : ∃ x : Nat, x < 100 ∧ a = nI x := by
  obtain ⟨j, hj, rfl⟩ := vp_in_of h (by omega)
  exact ⟨j, by omega, rfl⟩
theorem zCl {a : Int32} {n : Nat} (h : vp_in a n) (hn : n < 2 ^ 31) : a.toNatClampNeg < n ∧ a = nI a.toNatClampNeg := by
  obtain ⟨j, hj, rfl⟩ := vp_in_of h hn
  rw [nI_clamp (by omega)]
  exact ⟨hj, rfl⟩
theorem zCode {h k w x : Nat} {a1 a2 a3 : Int32} (ek : a1 = nI k) (ew : a2 + 1 = nI w) (ex : a3 = nI x) : sCode h a1 a2 a3 = nI (10000 * h + 1000 * k + 100 * w + x) := by
  rw [sCode, ek, ew, ex, show (10000 : Int32) = nI 10000 from rfl, show (1000 : Int32) = nI 1000 from rfl, show (100 : Int32) = nI 100 from rfl, pk_mul, pk_mul, pk_mul, nI_add, nI_add, nI_add]
theorem zIts {h k w x : Nat} {a1 a2 a3 : Int32} (h0 : h ≤ 2000) (hk : k ≤ 6) (ek : a1 = nI k) (hw : w ≤ 9) (ew : a2 + 1 = nI w) (hx : x < 100) (ex : a3 = nI x) : ((10000 * (nI h).toInt64 + (1000 * a1).toInt64) + (100 * (a2 + 1)).toInt64) + a3.toInt64 = lN (10000 * h + 1000 * k + 100 * w + x) := by
  rw [ek, ew, ex, show (1000 : Int32) = nI 1000 from rfl, show (100 : Int32) = nI 100 from rfl, pk_mul, pk_mul, nI_l (by omega), nI_l (by omega), nI_l (by omega), nI_l (by omega), show (10000 : Int64) = lN 10000 from rfl, lN_mul, lN_add, lN_add, lN_add]
theorem zDiv2 {n : Nat} (h : n < 2 ^ 31) : nI n / 2 = nI (n / 2) := pk_div (d := 2) h (by omega) (by omega)
theorem zRem2 {n : Nat} (h : n < 2 ^ 31) : nI n - nI n / 2 * 2 = nI (n % 2) := pk_rem (d := 2) h (by omega) (by omega)
theorem zE0 {n : Nat} (h : nI (n % 2) = 0) : n % 2 = 0 := (nI_eq (by omega) (by omega)).mp (show nI (n % 2) = nI 0 from h)
theorem zE1 {n : Nat} (h : ¬ nI (n % 2) = 0) : n % 2 = 1 := by
  have : ¬ n % 2 = 0 := fun z => h (by rw [z]; rfl)
  omega
theorem sPk_old {c : Nat → Int32} {n j : Nat} {v : Int32} (h : 2 * j + 1 < n) : sPk (upd c n v) (n + 1) j = sPk c n j := by
  simp [sPk, upd, show ¬ 2 * j = n by omega, show ¬ 2 * j + 1 = n by omega, show 2 * j + 1 < n + 1 by omega, h]
theorem sRE_even {E : Nat → Int64} {c : Nat → Int32} {n x : Nat} (h : sRE E c n) (hx : x < 1073741824) (he : n % 2 = 0) : sRE (vp_updL E (n / 2) (lN x)) (upd c n (nI x)) (n + 1) := by
  refine ⟨fun k hk => ?_, fun j hj => ?_⟩
  · by_cases hkn : k = n
    · exact ⟨x, hx, by simp [upd, hkn]⟩
    · obtain ⟨y, hy, e⟩ := h.1 k (by omega)
      exact ⟨y, hy, by simp [upd, hkn, e]⟩
  · by_cases hjn : 2 * j = n
    · have : j = n / 2 := by omega
      subst this
      simp [vp_updL, sPk, upd, hjn, nI_clamp (show x < 2 ^ 31 by omega)]
    · rw [sPk_old (by omega), ← h.2 j (by omega)]
      simp [vp_updL, show ¬ j = n / 2 by omega]
theorem sRE_odd {E : Nat → Int64} {c : Nat → Int32} {n x : Nat} (h : sRE E c n) (hx : x < 1073741824) (he : n % 2 = 1) : sRE (vp_updL E (n / 2) (E (n / 2) ||| lN x <<< ((32 : Int32).toInt64 &&& 63))) (upd c n (nI x)) (n + 1) := by
  refine ⟨fun k hk => ?_, fun j hj => ?_⟩
  · by_cases hkn : k = n
    · exact ⟨x, hx, by simp [upd, hkn]⟩
    · obtain ⟨y, hy, e⟩ := h.1 k (by omega)
      exact ⟨y, hy, by simp [upd, hkn, e]⟩
  · by_cases hjn : j = n / 2
    · subst hjn
      obtain ⟨y, hy, e⟩ := h.1 (2 * (n / 2)) (by omega)
      have hE := h.2 (n / 2) (by omega)
      rw [sPk, if_neg (by omega), e, nI_clamp (by omega)] at hE
      have h1 : vp_updL E (n / 2) (E (n / 2) ||| lN x <<< ((32 : Int32).toInt64 &&& 63)) (n / 2) = E (n / 2) ||| lN x <<< ((32 : Int32).toInt64 &&& 63) := by simp [vp_updL]
      rw [h1, hE, show ((32 : Int32).toInt64 &&& 63) = (32 : Int64) from by decide, g_shl (k := 32) (p := 4294967296) (by decide) (by decide) (by decide) (by omega), g_or' (k := 32) (p := 4294967296) (by decide) (by omega) (by omega)]
      have h2 : upd c n (nI x) (2 * (n / 2)) = c (2 * (n / 2)) := by simp [upd, show ¬ 2 * (n / 2) = n by omega]
      have h3 : upd c n (nI x) (2 * (n / 2) + 1) = nI x := by simp [upd, show 2 * (n / 2) + 1 = n by omega]
      rw [sPk, h2, h3, e, nI_clamp (by omega), nI_clamp (by omega), if_pos (by omega)]
      congr 1
    · rw [sPk_old (by omega), ← h.2 j (by omega)]
      simp [vp_updL, hjn]
theorem sRE_get {E : Nat → Int64} {c : Nat → Int32} {n k : Nat} (h : sRE E c n) (hk : k < n) (hn : n < 2 ^ 31) : ((E (k / 2) >>> ((32 * nI (k % 2)).toInt64 &&& 63)) &&& 2147483647).toInt32 = c k := by
  obtain ⟨x, hx, e⟩ := h.1 k hk
  rw [h.2 (k / 2) (by omega), show (2147483647 : Int64) = lN (2 ^ 31 - 1) from rfl, e]
  rcases Nat.mod_two_eq_zero_or_one k with h0 | h0
  · rw [h0, show ((32 * nI 0).toInt64 &&& 63) = (0 : Int64) from by decide]
    obtain ⟨y, hy, ey⟩ : ∃ y : Nat, y < 1073741824 ∧ sPk c n (k / 2) = x + y * 4294967296 := by
      have e2 : 2 * (k / 2) = k := by omega
      rw [sPk, e2, e, nI_clamp (by omega)]
      by_cases hl : k + 1 < n
      · obtain ⟨y, hy, e3⟩ := h.1 (k + 1) hl
        exact ⟨y, hy, by rw [if_pos hl, e3, nI_clamp (by omega)]⟩
      · exact ⟨0, by omega, by rw [if_neg hl]⟩
    rw [ey, pf_shr (d := 0) (by decide) (by omega), wb_mask (by omega) (by omega), lN_i]
    congr 1
    omega
  · rw [h0, show ((32 * nI 1).toInt64 &&& 63) = (32 : Int64) from by decide]
    have e2 : 2 * (k / 2) + 1 = k := by omega
    obtain ⟨y, hy, e3⟩ := h.1 (2 * (k / 2)) (by omega)
    have ey : sPk c n (k / 2) = y + x * 4294967296 := by
      rw [sPk, e2, if_pos hk, e, e3, nI_clamp (by omega), nI_clamp (by omega)]
    rw [ey, pf_shr (d := 32) (by decide) (by omega), wb_mask (by omega) (by omega), lN_i]
    congr 1
    omega
theorem zV10 {v : Int32} {b : Bool} (h : vp_in v 8) : ∃ x : Nat, x < 100 ∧ (v + if b then (10 : Int32) else 0) = nI x := by
  obtain ⟨j, hj, rfl⟩ := vp_in_of h (by omega)
  cases b
  · exact ⟨j, by omega, by simp⟩
  · exact ⟨j + 10, by omega, by rw [if_pos rfl, show (10 : Int32) = nI 10 from rfl, nI_add]⟩
theorem sInv_N1 {N : Nat → Nat} {T : Nat → Nat → Int32} {K a : Nat} (h : sInv N T K a) (hK : K ≤ 512) (ha : a ≤ 10) : N 1 < 24000 := by
  obtain ⟨⟨h0, -, h3, -, -, -, h1⟩, -⟩ := h
  have h2 : sAns T (N 3) ≤ N 3 := sCnt_le _ _
  have h4 : N 3 * N 0 ≤ 10 * 2000 := Nat.mul_le_mul h3 h0
  omega
theorem zRem8 {n : Nat} (h : n < 2 ^ 31) : nI n - nI n / 8 * 8 = nI (n % 8) := pk_rem (d := 8) h (by omega) (by omega)
