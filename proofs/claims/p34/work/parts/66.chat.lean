/-! the text and the threads, as the law keeps them -/
def sIz (D : Nat → Nat) (q z : Nat) : Nat → Nat := fun k => if k < q then D k else if k = q then z else D (k - 1)
theorem sIz_8 {D : Nat → Nat} {q z : Nat} (h : ∀ k, D k < 8) (hz : z < 8) : ∀ k, sIz D q z k < 8 := fun k => by
  rw [sIz]
  split
  · exact h k
  · split
    · exact hz
    · exact h _
theorem sP8_cg {D D2 : Nat → Nat} : ∀ {n : Nat}, (∀ k, k < n → D k = D2 k) → sP8 D n = sP8 D2 n
  | 0, _ => rfl
  | n + 1, h => by rw [sP8, sP8, h n (by omega), sP8_cg (n := n) (fun k hk => h k (by omega))]
theorem sP8_le {D : Nat → Nat} {q : Nat} : ∀ {n : Nat}, q ≤ n → sP8 D q ≤ sP8 D n
  | 0, h => by
    obtain rfl : q = 0 := by omega
    exact Nat.le_refl _
  | n + 1, h => by
    by_cases c : q = n + 1
    · rw [c]; exact Nat.le_refl _
    · rw [sP8]; exact Nat.le_trans (sP8_le (by omega)) (Nat.le_add_right _ _)
theorem sP8_iz {D : Nat → Nat} {q z : Nat} : ∀ {n : Nat}, q ≤ n → sP8 (sIz D q z) (n + 1) = sP8 D q + z * 8 ^ q + 8 * (sP8 D n - sP8 D q)
  | 0, h => by
    obtain rfl : q = 0 := by omega
    show 0 + sIz D 0 z 0 * 8 ^ 0 = 0 + z * 8 ^ 0 + 8 * (0 - 0)
    rw [sIz, if_neg (by omega), if_pos rfl]
    omega
  | n + 1, h => by
    by_cases c : q = n + 1
    · subst c
      rw [sP8, sP8_cg (D2 := D) (fun k hk => by rw [sIz, if_pos hk]), sIz, if_neg (by omega), if_pos rfl, Nat.sub_self]
      omega
    · have ih := sP8_iz (D := D) (q := q) (z := z) (n := n) (by omega)
      have hle := sP8_le (D := D) (q := q) (n := n) (by omega)
      rw [sP8, ih, sIz, if_neg (by omega), if_neg (by omega), Nat.add_sub_cancel, sP8, Nat.pow_succ]
      have e : D n * (8 ^ n * 8) = 8 * (D n * 8 ^ n) := by rw [← Nat.mul_assoc, Nat.mul_comm]
      rw [e]
      omega
theorem z_shl1 {q : Nat} (h : q < 10) : (1 : Int32) <<< ((3 * nI q) &&& 31) = nI (8 ^ q) := by
  show nI 1 <<< _ = _
  have h2 : 8 ^ q ≤ 8 ^ 9 := Nat.pow_le_pow_right (by omega) (by omega)
  have h3 : (8 : Nat) ^ 9 = 134217728 := by decide
  rw [pk_shlN _ (3 * q) (sh3 h) (by rw [p2_3]; omega), p2_3, Nat.one_mul]
theorem z_shlz {q z : Nat} (hz : z < 8) (h : q < 9) : nI z <<< ((3 * nI q) &&& 31) = nI (z * 8 ^ q) := by
  have h2 : 8 ^ q ≤ 8 ^ 8 := Nat.pow_le_pow_right (by omega) (by omega)
  have h3 : (8 : Nat) ^ 8 = 16777216 := by decide
  have h4 : z * 8 ^ q ≤ 7 * 8 ^ q := Nat.mul_le_mul_right _ (by omega)
  rw [pk_shlN _ (3 * q) (sh3 (by omega)) (by rw [p2_3]; omega), p2_3]
theorem z_mask {D : Nat → Nat} {n q : Nat} (hD : ∀ k, D k < 8) (hq : q ≤ n) (hn : n ≤ 9) : nI (sP8 D n) &&& (nI (8 ^ q) - 1) = nI (sP8 D q) := by
  have hb := sP8_top hD hn
  have h2 : 0 < 8 ^ q := Nat.pow_pos (by omega)
  have h4 : 8 ^ q ≤ 8 ^ 9 := Nat.pow_le_pow_right (by omega) (by omega)
  have h3 : (8 : Nat) ^ 9 = 134217728 := by decide
  have e : nI (8 ^ q) - 1 = nI (8 ^ q - 1) := by rw [show (1 : Int32) = nI 1 from rfl, pk_sub (by omega)]
  rw [e, nx_and, ← p2_3, Nat.and_two_pow_sub_one_eq_mod, p2_3, sP8_mod hD hq]
theorem z_or1 {a b q : Nat} (h : a < 8 ^ q) : nI a ||| nI (b * 8 ^ q) = nI (a + b * 8 ^ q) := by
  rw [Int32.or_comm, Nat.mul_comm, ← p2_3, nz_ors b (by rw [p2_3]; exact h), Nat.add_comm]
theorem z_ins {D : Nat → Nat} {n q z : Nat} (hD : ∀ k, D k < 8) (hz : z < 8) (hq : q ≤ n) (hn : n ≤ 8) : nI (sP8 D q + z * 8 ^ q) ||| nI ((sP8 D n - sP8 D q) * 8) = nI (sP8 (sIz D q z) (n + 1)) := by
  have hlt := sP8_lt hD q
  have hm : sP8 D n = 8 ^ q * (sP8 D n / 8 ^ q) + sP8 D q := by
    have := Nat.div_add_mod (sP8 D n) (8 ^ q)
    rw [sP8_mod hD hq] at this
    omega
  have e : (sP8 D n - sP8 D q) * 8 = (sP8 D n / 8 ^ q) * 8 ^ (q + 1) := by
    rw [show sP8 D n - sP8 D q = 8 ^ q * (sP8 D n / 8 ^ q) by omega, Nat.pow_succ, Nat.mul_comm (8 ^ q) (sP8 D n / 8 ^ q), Nat.mul_assoc]
  have h7 : z * 8 ^ q ≤ 7 * 8 ^ q := Nat.mul_le_mul_right _ (by omega)
  rw [e, z_or1 (q := q + 1) (by rw [Nat.pow_succ]; omega), ← e, sP8_iz hq]
  exact congrArg nI (by omega)
theorem sTx_ins {D : Nat → Nat} {t : Nat → Int32} {n q z : Nat} (h : sTx D t n) (hz : z < 8) (hq : q ≤ n) : sTx (sIz D q z) (sIns t q n (zLt z)) (n + 1) := by
  refine ⟨sIz_8 h.1 hz, fun k hk => ?_⟩
  rw [sIns, sIz]
  by_cases c : k = q
  · rw [if_pos c, if_neg (by omega), if_pos c]
  · rw [if_neg c]
    by_cases d : k < q
    · rw [if_neg (by omega), if_pos d, h.2 k (by omega)]
    · rw [if_pos ⟨by omega, by omega⟩, if_neg d, if_neg c, h.2 _ (by omega)]
section CH
variable {N : Nat → Nat} {T : Nat → Nat → Int32} {E E1 : Nat → Int64} {F : Nat → Nat → Int32} {K : Nat} {p : Int32}
theorem sLR_clear (h : sLR N T E F) : sLR (va_up N 4 0) T E (va_up F 9 (upd (upd (F 9) 8 0) 9 0)) := by
  obtain ⟨r0, r1, r2, r3, r4, r5, r6, r7, ⟨D, rt, -⟩, ⟨q0, q1, q2, q3, q4, q5, q6, q7, q8⟩⟩ := h
  refine ⟨r0, r1, r2, r3, r4, r5, r6, fun m hm => ?_, ⟨D, ⟨rt.1, fun k hk => absurd hk (Nat.not_lt_zero k)⟩, rfl⟩, ⟨q0, q1, q2, q3, q4, q5, q6, q7, rfl⟩⟩
  show ∃ D : Nat → Nat, sTx D (T (20 + m)) (va_up N 4 0 (20 + m)) ∧ va_up N 4 0 (20 + m) ≤ 9 ∧ F 7 m = nI (va_up N 4 0 (20 + m) + 16 * sP8 D (va_up N 4 0 (20 + m)))
  rw [va_up_ne _ _ (by omega)]
  exact r7 m hm
theorem sLJ_clear (h : sLJ N T K) : sLJ (va_up N 4 0) T (K + 1) :=
  ⟨g_clear h.1, sL2_same h.2 h.2.1.1 rfl rfl (Nat.zero_le _) h.2.1.2.2.2.2 rfl rfl (sLH_eq h.2.2.2.2 rfl rfl rfl rfl rfl rfl rfl)⟩
theorem sLR_ins {D : Nat → Nat} {q z : Nat} (h : sLR N T E F) (hD : sTx D (T 17) (N 4)) (hz : z < 8) (hq : q ≤ N 4) (hn : N 4 ≤ 8) : sLR (nIns N T (nI q) (zLt z)).1 (nIns N T (nI q) (zLt z)).2 E (va_up F 9 (upd (upd (F 9) 9 (nI (sP8 (sIz D q z) (N 4 + 1)))) 8 (nI (N 4 + 1)))) := by
  obtain ⟨r0, r1, r2, r3, r4, r5, r6, r7, -, ⟨q0, q1, q2, q3, q4, q5, q6, q7, q8⟩⟩ := h
  have hc : (nI q).toNatClampNeg = q := nI_clamp (by omega)
  refine ⟨r0, r1, r2, r3, r4, r5, r6, fun m hm => ?_, ⟨sIz D q z, ?_, rfl⟩, ⟨q0, q1, q2, q3, q4, q5, q6, q7, rfl⟩⟩
  · show ∃ D : Nat → Nat, sTx D (va_up T 17 _ (20 + m)) (va_up N 4 _ (20 + m)) ∧ va_up N 4 _ (20 + m) ≤ 9 ∧ F 7 m = nI (va_up N 4 _ (20 + m) + 16 * sP8 D (va_up N 4 _ (20 + m)))
    rw [va_up_ne _ _ (by omega), va_up_ne _ _ (by omega)]
    exact r7 m hm
  · show sTx _ (sIns (T 17) (nI q).toNatClampNeg (N 4) (zLt z)) (N 4 + 1)
    rw [hc]
    exact sTx_ins hD hz hq
theorem sLJ_ins {q z : Nat} (h : sLJ N T K) (hz : z < 8) (hn : N 4 ≤ 8) (hk : sK2 (sIn (nI q) 0 (nI (N 4))) (!decide (N 4 = 40)) = 0) : sLJ (nIns N T (nI q) (zLt z)).1 (nIns N T (nI q) (zLt z)).2 (K + 1) :=
  ⟨g_ins h.1 (zLt_16 hz) hk, sL2_same h.2 h.2.1.1 rfl rfl (by show N 4 + 1 ≤ 9; omega) h.2.1.2.2.2.2 rfl rfl (sLH_eq h.2.2.2.2 rfl rfl rfl rfl rfl rfl rfl)⟩
/-- whose the thread becomes, place by place -/
theorem sMw {D : Nat → Nat} {t : Nat → Int32} {n i : Nat} (h : sTx D t n) (hi : i + 1 < n) : sMeantTo t (i + 1) = if D i = 0 ∧ (D (i + 1) = 1 ∨ D (i + 1) = 2 ∨ D (i + 1) = 7) then (if D (i + 1) = 1 then 0 else if D (i + 1) = 2 then 8 else 1) else sMeantTo t i := by
  rw [sMeantTo, sCalls, h.2 i (by omega), h.2 _ hi]
  have a := h.1 i
  have b := h.1 (i + 1)
  generalize D i = x at a
  generalize D (i + 1) = y at b
  have key : ∀ v : Int32, (if (decide (zLt x = 64) && (decide (48 ≤ zLt y) && decide (zLt y ≤ 56))) = true then zLt y - 48 else v) = if x = 0 ∧ (y = 1 ∨ y = 2 ∨ y = 7) then (if y = 1 then 0 else if y = 2 then 8 else 1) else v := by
    intro v
    have k1 := co_dec (N := 64) (P := fun j => (decide (zLt (j / 8) = 64) && (decide (48 ≤ zLt (j % 8)) && decide (zLt (j % 8) ≤ 56))) = decide (j / 8 = 0 ∧ (j % 8 = 1 ∨ j % 8 = 2 ∨ j % 8 = 7)) ∧ ((j % 8 = 1 ∨ j % 8 = 2 ∨ j % 8 = 7) → zLt (j % 8) - 48 = if j % 8 = 1 then 0 else if j % 8 = 2 then 8 else 1)) (by decide +kernel) (i := 8 * x + y) (by omega)
    rw [show (8 * x + y) / 8 = x by omega, show (8 * x + y) % 8 = y by omega] at k1
    rw [k1.1]
    by_cases c : x = 0 ∧ (y = 1 ∨ y = 2 ∨ y = 7)
    · rw [if_pos (decide_eq_true c), if_pos c]; exact k1.2 c.2
    · rw [if_neg (by rw [decide_eq_false c]; decide), if_neg c]
  exact key _
theorem nPost_eq {a : Int32} : nPost N T a = sAssign (nPost0 N T a).1 (nPost0 N T a).2 (rPost N a) (sMeant (T 17) (N 4)) := rfl
/-- the law's arrays behind a posted text, ahead of its entry -/
theorem sLR_post0 {D : Nat → Nat} {a : Int32} {f8 : Nat → Int32} (h : sLR N T E F) (hD : sTx D (T 17) (N 4)) (h9 : N 4 ≤ 9) : sLR (nPost0 N T a).1 (nPost0 N T a).2 E (va_up (va_up (va_up F 7 (upd (F 7) (N 5) (nI (N 4 + 16 * sP8 D (N 4))))) 8 f8) 9 (upd (upd (upd (upd (F 9) 7 (nI (if a = -1 then N 6 + 1 else N 6))) 6 (nI (N 5 + 1))) 8 0) 9 0)) := by
  obtain ⟨r0, r1, r2, r3, r4, r5, r6, r7, -, ⟨q0, q1, q2, q3, q4, q5, q6, q7, q8⟩⟩ := h
  obtain ⟨n0, n1, n2⟩ : (nPost0 N T a).1 0 = N 0 ∧ (nPost0 N T a).1 1 = N 1 ∧ (nPost0 N T a).1 2 = N 2 := ⟨sPost0_N.1, sPost0_N.2.1, sPost0_N.2.2.1⟩
  have nn : ∀ k, k < 20 → k ≠ 4 → k ≠ 5 → k ≠ 6 → (nPost0 N T a).1 k = N k := by
    intro k hk h4 h5 h6
    show va_up (va_up (va_up (if a = -1 then va_up N 6 (N 6 + 1) else N) (20 + N 5) (N 4)) 5 (N 5 + 1)) 4 0 k = N k
    rw [va_up_ne _ _ h4, va_up_ne _ _ h5, va_up_ne _ _ (by omega)]
    split
    · rw [va_up_ne _ _ h6]
    · rfl
  have n5 : (nPost0 N T a).1 5 = N 5 + 1 := rfl
  have n4 : (nPost0 N T a).1 4 = 0 := rfl
  have n6 : (nPost0 N T a).1 6 = if a = -1 then N 6 + 1 else N 6 := by
    show va_up (va_up (va_up (if a = -1 then va_up N 6 (N 6 + 1) else N) (20 + N 5) (N 4)) 5 (N 5 + 1)) 4 0 6 = _
    rw [va_up_ne _ _ (by omega), va_up_ne _ _ (by omega), va_up_ne _ _ (by omega)]
    split
    · rw [va_up_self]
    · rfl
  have t : ∀ k, k < 20 → k ≠ 18 → (nPost0 N T a).2 k = T k := sPost0_T.1
  refine ⟨?_, fun v hv => ?_, fun i hi => ?_, fun b hb => ?_, fun b hb => ?_, ?_, fun b hb => ?_, fun m hm => ?_, ⟨D, ⟨hD.1, fun k hk => ?_⟩, ?_⟩, ⟨?_, ?_, ?_, ?_, ?_, ?_, ?_, ?_, ?_⟩⟩
  · rw [n1, t 0 (by omega) (by omega)]; exact r0
  · rw [t 4 (by omega) (by omega), t 5 (by omega) (by omega)]; exact r1 v hv
  · rw [t 6 (by omega) (by omega)]; exact r2 i hi
  · rw [nn 3 (by omega) (by omega) (by omega) (by omega)] at hb
    rw [sPa_cg (t 11 (by omega) (by omega)) (t 12 (by omega) (by omega)) (t 13 (by omega) (by omega)) (t 14 (by omega) (by omega)) (t 15 (by omega) (by omega)) (by rw [t 16 (by omega) (by omega)])]
    exact r3 b hb
  · rw [n2] at hb; rw [t 8 (by omega) (by omega)]; exact r4 b hb
  · unfold sR5; rw [n2, t 9 (by omega) (by omega), t 10 (by omega) (by omega)]; exact r5
  · rw [t 1 (by omega) (by omega)]; exact r6 b hb
  · rw [n5] at hm
    have eN : (nPost0 N T a).1 (20 + m) = if m = N 5 then N 4 else N (20 + m) := by
      show va_up (va_up (va_up (if a = -1 then va_up N 6 (N 6 + 1) else N) (20 + N 5) (N 4)) 5 (N 5 + 1)) 4 0 (20 + m) = _
      rw [va_up_ne _ _ (by omega), va_up_ne _ _ (by omega)]
      by_cases c : m = N 5
      · rw [if_pos c, c, va_up_self]
      · rw [if_neg c, va_up_ne _ _ (by omega)]
        split
        · rw [va_up_ne _ _ (by omega)]
        · rfl
    have eT : (nPost0 N T a).2 (20 + m) = if m = N 5 then T 17 else T (20 + m) := by
      show va_up (if a = -1 then va_up T 18 (upd (T 18) (N 6) (-1)) else T) (20 + N 5) (T 17) (20 + m) = _
      by_cases c : m = N 5
      · rw [if_pos c, c, va_up_self]
      · rw [if_neg c, va_up_ne _ _ (by omega)]
        split
        · rw [va_up_ne _ _ (by omega)]
        · rfl
    rw [eN, eT]
    show ∃ D : Nat → Nat, _ ∧ _ ∧ upd (F 7) (N 5) _ m = _
    by_cases c : m = N 5
    · rw [if_pos c, if_pos c, c, upd_at]; exact ⟨D, hD, h9, rfl⟩
    · rw [if_neg c, if_neg c, upd_no c]; exact r7 m (by omega)
  · rw [n4] at hk; exact absurd hk (Nat.not_lt_zero k)
  · rw [n4]; rfl
  · rw [n0]; exact q0
  · rw [n1]; exact q1
  · rw [t 19 (by omega) (by omega)]; exact q2
  · rw [t 19 (by omega) (by omega)]; exact q3
  · rw [nn 3 (by omega) (by omega) (by omega) (by omega)]; exact q4
  · rw [n2]; exact q5
  · rw [n5]; rfl
  · rw [n6]; rfl
  · rw [n4]; rfl
theorem sMeant_ge {t : Nat → Int32} {n : Nat} : sMeant t n < 0 ↔ sMeant t n = -1 := by
  by_cases c : sMeant t n = -1
  · rw [c]; exact ⟨fun _ => rfl, fun _ => by decide⟩
  · exact ⟨fun h => absurd h (zNn_in (sMeant_vp c)), fun h => absurd h c⟩
theorem sLR_post_n {D : Nat → Nat} {a : Int32} {f8 : Nat → Int32} (h : sLR N T E F) (hD : sTx D (T 17) (N 4)) (h9 : N 4 ≤ 9) (hm : sMeant (T 17) (N 4) = -1) : sLR (nPost N T a).1 (nPost N T a).2 E (va_up (va_up (va_up F 7 (upd (F 7) (N 5) (nI (N 4 + 16 * sP8 D (N 4))))) 8 f8) 9 (upd (upd (upd (upd (F 9) 7 (nI (if a = -1 then N 6 + 1 else N 6))) 6 (nI (N 5 + 1))) 8 0) 9 0)) := by
  rw [nPost_eq, sAssign, if_pos hm]
  exact sLR_post0 h hD h9
theorem sLR_post_y {D : Nat → Nat} {a : Int32} {f8 : Nat → Int32} (h : sLR N T E F) (hD : sTx D (T 17) (N 4)) (h9 : N 4 ≤ 9) (hm : ¬ sMeant (T 17) (N 4) = -1) (hE : sRE E1 (upd (T 0) (N 1) (sCode (N 0) 5 (sMeant (T 17) (N 4)) (rPost N a))) (N 1 + 1)) : sLR (nPost N T a).1 (nPost N T a).2 E1 (va_up (va_up (va_up F 7 (upd (F 7) (N 5) (nI (N 4 + 16 * sP8 D (N 4))))) 8 f8) 9 (upd (upd (upd (upd (upd (F 9) 7 (nI (if a = -1 then N 6 + 1 else N 6))) 6 (nI (N 5 + 1))) 8 0) 9 0) 1 (nI (N 1 + 1)))) := by
  have h0 := sLR_post0 (a := a) (f8 := f8) h hD h9
  have n0 : (nPost0 N T a).1 0 = N 0 := sPost0_N.1
  have n1 : (nPost0 N T a).1 1 = N 1 := sPost0_N.2.1
  have t0 : (nPost0 N T a).2 0 = T 0 := sPost0_T.1 0 (by omega) (by omega)
  rw [nPost_eq, sAssign, if_neg hm]
  have h1 := sLR_note (T := va_up (nPost0 N T a).2 18 (upd ((nPost0 N T a).2 18) (rPost N a).toNatClampNeg (sMeant (T 17) (N 4)))) (E1 := E1) (a := 5) (b := sMeant (T 17) (N 4)) (c := rPost N a) (sLR_T h0 rfl rfl rfl rfl rfl rfl rfl rfl (fun k h1 h2 => va_up_ne _ _ (by omega)) rfl (fun m => va_up_ne _ _ (by omega))) (by show sRE E1 (upd ((nPost0 N T a).2 0) ((nPost0 N T a).1 1) (sCode ((nPost0 N T a).1 0) 5 _ _)) ((nPost0 N T a).1 1 + 1); rw [n0, n1, t0]; exact hE)
  rw [n1] at h1
  exact h1
theorem nPost_1 {a : Int32} : (nPost N T a).1 1 ≤ N 1 + 1 := by
  have n1 : (nPost0 N T a).1 1 = N 1 := sPost0_N.2.1
  rw [nPost_eq, sAssign]
  split
  · rw [n1]; omega
  · show (nPost0 N T a).1 1 + 1 ≤ N 1 + 1
    rw [n1]; omega
theorem rPost_m : rPost N (-1) = nI (N 6) := if_pos rfl
theorem rPost_n {j : Nat} (h : j < 2 ^ 31) : rPost N (nI j) = nI j := if_neg (zNm1 h)
theorem sLJ_post {a : Int32} (h : sLJ N T K) (hb : N 1 ≤ 90) (h5 : N 5 < 12) (hk : sK2 ((sIx p 9) && (decide (a = -1) || sIx a (N 6))) (((decide (T 2 p.toNatClampNeg = 0)) && (sGood (T 17) (N 4))) && !decide (N 5 = 60)) = 0) : sLJ (nPost N T a).1 (nPost N T a).2 (K + 1) := by
  obtain ⟨i1, i2⟩ := sAndI (sK2_0 hk).1
  have hg := g_post h.1 hk
  have hH := h.2.2.2.2
  have h56 := h.1.1.1.2.2.2.2.2.1
  have hK0 := h.1.1.2.2.2.2.2.2.2.2.1
  obtain ⟨j, hj, ej⟩ : ∃ j : Nat, j ≤ 12 ∧ rPost N a = nI j := by
    by_cases c : a = -1
    · rw [c]; exact ⟨N 6, by omega, rPost_m⟩
    · rw [rPost, if_neg c]
      rw [decide_eq_false c, Bool.false_or] at i2
      obtain ⟨c1, c2⟩ := zCl (sIx_in.mp i2) (by omega)
      exact ⟨_, by omega, c2⟩
  have n0 : (nPost0 N T a).1 0 = N 0 := sPost0_N.1
  have n1 : (nPost0 N T a).1 1 = N 1 := sPost0_N.2.1
  have n2 : (nPost0 N T a).1 2 = N 2 := sPost0_N.2.2.1
  have t : ∀ k, k < 20 → k ≠ 18 → (nPost0 N T a).2 k = T k := sPost0_T.1
  have t18 : (nPost0 N T a).2 18 = T 18 := by
    show va_up (if a = -1 then va_up T 18 (upd (T 18) (N 6) (-1)) else T) (20 + N 5) (T 17) 18 = T 18
    rw [va_up_ne _ _ (by omega)]
    split
    · rw [va_up_self]
      funext k
      by_cases c : k = N 6
      · rw [c, upd_at, hK0 _ (Nat.le_refl _)]
      · rw [upd_no c]
    · rfl
  have hH0 : sLH (nPost0 N T a).1 (nPost0 N T a).2 := sLH_eq hH n1 n2 (t 0 (by omega) (by omega)) (t 2 (by omega) (by omega)) (t 7 (by omega) (by omega)) (t 10 (by omega) (by omega)) t18
  have n3 : (nPost0 N T a).1 3 = N 3 := by
    show va_up (va_up (va_up (if a = -1 then va_up N 6 (N 6 + 1) else N) (20 + N 5) (N 4)) 5 (N 5 + 1)) 4 0 3 = N 3
    rw [va_up_ne _ _ (by omega), va_up_ne _ _ (by omega), va_up_ne _ _ (by omega)]
    split
    · rw [va_up_ne _ _ (by omega)]
    · rfl
  have n4 : (nPost0 N T a).1 4 = 0 := rfl
  have n5 : (nPost0 N T a).1 5 = N 5 + 1 := rfl
  have h0 : sL2 (nPost0 N T a).1 (nPost0 N T a).2 := sL2_same h.2 (by rw [n1]; omega) n0 n3 (by rw [n4]; omega) (by rw [n5]; omega) (t 6 (by omega) (by omega)) (t 12 (by omega) (by omega)) hH0
  refine ⟨hg, ?_⟩
  rw [nPost_eq, sAssign]
  split
  · exact h0
  · rename_i hm
    obtain ⟨w, hw, ew⟩ := s_who (sMeant_vp hm)
    have ex : sMeant (T 17) (N 4) = nI w - 1 := by rw [← ew]; exact (Int32.add_sub_cancel _ _).symm
    refine sL2_same h0 (by show (nPost0 N T a).1 1 + 1 ≤ 120; rw [n1]; omega) rfl rfl (by show (nPost0 N T a).1 4 ≤ 9; rw [n4]; omega) (by show (nPost0 N T a).1 5 ≤ 12; rw [n5]; omega) rfl rfl ?_
    refine sLH_new (h0 := (nPost0 N T a).1 0) (kd := 5) (w := w) (x := j) hH0 (by rw [n0]; exact h.1.1.1.1) (by omega) hw (by omega) (by show (nPost0 N T a).1 2 ≤ 40; rw [n2]; exact h.1.1.1.2.1) rfl (congrArg (upd ((nPost0 N T a).2 0) ((nPost0 N T a).1 1)) (sCd_code (h := (nPost0 N T a).1 0) (kd := 5) (w := w) (x := j) (a1 := 5) (a2 := sMeant (T 17) (N 4)) (a3 := rPost N a) rfl ew ej)) (fun q hq => ?_) (fun k hk2 => ?_) (fun k _ => ?_)
    · show (nPost0 N T a).2 2 q = _
      rw [hH0.1 q hq, decide_eq_false (show ¬ (5 : Nat) = 4 by omega), Bool.false_and, Bool.or_false]
    · rw [if_neg (by omega)]; exact hH0.2.1 k hk2
    · show _ = upd ((nPost0 N T a).2 18) (rPost N a).toNatClampNeg (sMeant (T 17) (N 4)) k
      rw [ej, nI_clamp (by omega)]
      by_cases c : k = j
      · rw [if_pos ⟨by omega, c.symm⟩, if_pos rfl, c, upd_at, ex]
      · rw [if_neg (fun z => c z.2.symm), upd_no c]
end CH
