/-! what the reference keeps, call by call -/
theorem zIn {v : Int32} {n m : Nat} (h : vp_in v n) (hn : n ≤ m) : vp_in v m := by
  rw [vp_in_iff] at h ⊢
  omega
theorem sBars_le {N : Nat → Nat} {T : Nat → Nat → Int32} {p v : Int32} (h : sBars N T p v ≤ 0) : sBars N T p v = 0 := by
  revert h
  unfold sBars
  split
  · intro h; exact absurd h (by decide)
  · split
    · intro h; exact absurd h (by decide)
    · split
      · intro h; exact absurd h (by decide)
      · intro _; rfl
theorem sBars_nle {N : Nat → Nat} {T : Nat → Nat → Int32} {p v : Int32} (h : ¬ sBars N T p v ≤ 0) : ¬ sBars N T p v = 0 := fun z => h (by rw [z]; decide)
theorem sMR_len {N : Nat → Nat} {T : Nat → Nat → Int32} {E : Nat → Int64} {hg ag mn sd tk : Nat → Int32} {x : Nat} (h : sMR N T E hg ag mn sd tk) : sMR (va_up N 4 x) T E hg ag mn sd tk := by
  obtain ⟨h1, h2, h3, h4, h5⟩ := h
  refine ⟨h1, h2, h3, ?_, h5⟩
  intro m hm
  rw [va_up_ne N x (show 20 + m ≠ 4 by omega)]
  exact h4 m hm
theorem sMR_up1 {N : Nat → Nat} {T : Nat → Nat → Int32} {E : Nat → Int64} {hg ag mn sd tk : Nat → Int32} {f : Nat → Int32} (h : sMR N T E hg ag mn sd tk) : sMR N (va_up T 1 f) E hg ag mn sd tk := by
  obtain ⟨h1, h2, h3, h4, h5⟩ := h
  refine ⟨h1, h2, h3, ?_, h5⟩
  intro m hm
  rw [va_up_ne T f (show 20 + m ≠ 1 by omega)]
  exact h4 m hm
theorem z20_0 {m : Nat} : (20 + m = 0) = False := eq_false (by omega)
theorem z20_1 {m : Nat} : (20 + m = 1) = False := eq_false (by omega)
theorem z20_2 {m : Nat} : (20 + m = 2) = False := eq_false (by omega)
theorem z20_3 {m : Nat} : (20 + m = 3) = False := eq_false (by omega)
theorem z20_4 {m : Nat} : (20 + m = 4) = False := eq_false (by omega)
theorem z20_5 {m : Nat} : (20 + m = 5) = False := eq_false (by omega)
theorem z20_6 {m : Nat} : (20 + m = 6) = False := eq_false (by omega)
theorem z20_7 {m : Nat} : (20 + m = 7) = False := eq_false (by omega)
theorem z20_8 {m : Nat} : (20 + m = 8) = False := eq_false (by omega)
theorem z20_9 {m : Nat} : (20 + m = 9) = False := eq_false (by omega)
theorem z20_10 {m : Nat} : (20 + m = 10) = False := eq_false (by omega)
theorem z20_11 {m : Nat} : (20 + m = 11) = False := eq_false (by omega)
theorem z20_12 {m : Nat} : (20 + m = 12) = False := eq_false (by omega)
theorem z20_13 {m : Nat} : (20 + m = 13) = False := eq_false (by omega)
theorem z20_14 {m : Nat} : (20 + m = 14) = False := eq_false (by omega)
theorem z20_15 {m : Nat} : (20 + m = 15) = False := eq_false (by omega)
theorem z20_16 {m : Nat} : (20 + m = 16) = False := eq_false (by omega)
theorem z20_17 {m : Nat} : (20 + m = 17) = False := eq_false (by omega)
theorem z20_18 {m : Nat} : (20 + m = 18) = False := eq_false (by omega)
theorem z20_19 {m : Nat} : (20 + m = 19) = False := eq_false (by omega)
theorem sSD_keep {N N2 : Nat → Nat} {T T2 : Nat → Nat → Int32} {mn sd : Nat → Int32} (h : sSD N T mn sd) (h5 : N2 5 = N 5) (hn : ∀ m, N2 (20 + m) = N (20 + m)) (ht : ∀ m, T2 (20 + m) = T (20 + m)) : sSD N2 T2 mn sd := by
  intro m hm
  rw [h5] at hm
  rw [hn, ht]
  exact h m hm
theorem sMR_hang {N : Nat → Nat} {T : Nat → Nat → Int32} {E E1 : Nat → Int64} {hg ag mn sd tk : Nat → Int32} {p v : Int32} (h : sMR N T E hg ag mn sd tk) (hE : sRE E1 ((nHang N T p v).2 0) ((nHang N T p v).1 1)) : sMR (nHang N T p v).1 (nHang N T p v).2 E1 (upd hg (N 2) v) (upd ag (N 2) 0) mn sd tk := by
  obtain ⟨h1, h2, h3, h4, h5⟩ := h
  refine ⟨hE, ?_, ?_, sSD_keep h4 rfl (fun m => by simp [nHang, sNote, va_up, z20_0, z20_1, z20_2, z20_3, z20_4, z20_5, z20_6, z20_7, z20_8, z20_9, z20_10, z20_11, z20_12, z20_13, z20_14, z20_15, z20_16, z20_17, z20_18, z20_19]) (fun m => by simp [nHang, sNote, va_up, z20_0, z20_1, z20_2, z20_3, z20_4, z20_5, z20_6, z20_7, z20_8, z20_9, z20_10, z20_11, z20_12, z20_13, z20_14, z20_15, z20_16, z20_17, z20_18, z20_19]), h5⟩
  · intro t ht
    have ht : t < N 2 + 1 := ht
    show upd hg (N 2) v t = if upd (T 10) (N 2) 0 t = 0 then upd (T 8) (N 2) v t else -1
    by_cases e : t = N 2
    · simp [upd, e]
    · simp only [upd, e, if_false]
      exact h2 t (by omega)
  · intro t ht h0
    have ht : t < N 2 + 1 := ht
    have h0 : upd (T 10) (N 2) 0 t = 0 := h0
    show upd ag (N 2) 0 t = if upd (T 9) (N 2) (-1) t = -1 then 0 else (1 : Int32) <<< (upd (T 9) (N 2) (-1) t &&& 31)
    by_cases e : t = N 2
    · simp [upd, e]
    · simp only [upd, e, if_false] at h0 ⊢
      exact h3 t (by omega) h0
theorem sMR_leave {N : Nat → Nat} {T : Nat → Nat → Int32} {E E1 : Nat → Int64} {hg ag mn sd tk : Nat → Int32} {p : Int32} (h : sMR N T E hg ag mn sd tk) (hE : sRE E1 ((nLeave N T p).2 0) ((nLeave N T p).1 1)) : sMR (nLeave N T p).1 (nLeave N T p).2 E1 hg ag mn sd tk := by
  obtain ⟨h1, h2, h3, h4, h5⟩ := h
  exact ⟨hE, h2, h3, sSD_keep h4 rfl (fun m => by simp [nLeave, sNote, va_up, z20_0, z20_1, z20_2, z20_3, z20_4, z20_5, z20_6, z20_7, z20_8, z20_9, z20_10, z20_11, z20_12, z20_13, z20_14, z20_15, z20_16, z20_17, z20_18, z20_19]) (fun m => by simp [nLeave, sNote, va_up, z20_0, z20_1, z20_2, z20_3, z20_4, z20_5, z20_6, z20_7, z20_8, z20_9, z20_10, z20_11, z20_12, z20_13, z20_14, z20_15, z20_16, z20_17, z20_18, z20_19]), h5⟩
theorem sLeave_hg {N : Nat → Nat} {T : Nat → Nat → Int32} {hg : Nat → Int32} {p : Int32} (h : sHG N T hg) (hT : ∀ t, t < N 2 → vp_in (T 8 t) 8) : nI (sCnt (fun t => !decide (hg t = -1) && decide (T 7 t = p)) (N 2)) = rLeave N T p := by
  unfold rLeave
  congr 1
  refine sCnt_congr (fun t ht => ?_)
  rw [h t ht]
  have hne : ¬ T 8 t = -1 := by
    intro e
    have := hT t ht
    rw [e] at this
    exact this (Or.inl (by decide))
  by_cases h0 : T 10 t = 0 <;> simp [h0, hne]
theorem sAdv1 {a : Int32} (h : sIn a 1 100 = true) : 1 ≤ a.toNatClampNeg ∧ a.toNatClampNeg ≤ 100 ∧ a = nI a.toNatClampNeg := by
  simp only [sIn, Bool.and_eq_true, decide_eq_true_eq, Int32.le_iff_toInt_le, show (1 : Int32).toInt = 1 from by decide, show (100 : Int32).toInt = 100 from by decide] at h
  have hv : vp_in a 101 := vp_in_iff.mpr ⟨by omega, by omega⟩
  obtain ⟨j, hj, rfl⟩ := vp_in_of hv (by omega)
  rw [nI_toInt (by omega)] at h
  rw [nI_clamp (by omega)]
  exact ⟨by omega, by omega, rfl⟩
theorem sAdv2 {n : Nat} {a : Int32} {k : Nat} (hn : n ≤ 2000) (hk : k ≤ 100) (e : a = nI k) (h : nI n + a ≤ 2000) : n + k ≤ 2000 := by
  rw [e, nI_add, show (2000 : Int32) = nI 2000 from rfl] at h
  exact (nI_leI (by omega) (by omega)).mp h
theorem sMR_alarm {N : Nat → Nat} {T : Nat → Nat → Int32} {E : Nat → Int64} {hg ag mn sd tk : Nat → Int32} {a b v : Int32} {x y : Bool} (h : sMR N T E hg ag mn sd tk) : sMR (nAlarm N T a b x v y).1 (nAlarm N T a b x v y).2 E hg ag mn sd tk := by
  obtain ⟨h1, h2, h3, h4, h5⟩ := h
  exact ⟨h1, h2, h3, sSD_keep h4 rfl (fun m => by simp [nAlarm, va_up, z20_0, z20_1, z20_2, z20_3, z20_4, z20_5, z20_6, z20_7, z20_8, z20_9, z20_10, z20_11, z20_12, z20_13, z20_14, z20_15, z20_16, z20_17, z20_18, z20_19]) (fun m => by simp [nAlarm, va_up, z20_0, z20_1, z20_2, z20_3, z20_4, z20_5, z20_6, z20_7, z20_8, z20_9, z20_10, z20_11, z20_12, z20_13, z20_14, z20_15, z20_16, z20_17, z20_18, z20_19]), h5⟩
theorem sMR_ins {N : Nat → Nat} {T : Nat → Nat → Int32} {E : Nat → Int64} {hg ag mn sd tk : Nat → Int32} {f : Nat → Int32} {x : Nat} (h : sMR N T E hg ag mn sd tk) : sMR (va_up N 4 x) (va_up T 17 f) E hg ag mn sd tk := by
  obtain ⟨h1, h2, h3, h4, h5⟩ := h
  exact ⟨h1, h2, h3, sSD_keep h4 rfl (fun m => by simp [va_up, z20_0, z20_1, z20_2, z20_3, z20_4, z20_5, z20_6, z20_7, z20_8, z20_9, z20_10, z20_11, z20_12, z20_13, z20_14, z20_15, z20_16, z20_17, z20_18, z20_19]) (fun m => by simp [va_up, z20_0, z20_1, z20_2, z20_3, z20_4, z20_5, z20_6, z20_7, z20_8, z20_9, z20_10, z20_11, z20_12, z20_13, z20_14, z20_15, z20_16, z20_17, z20_18, z20_19]), h5⟩
theorem sMR_fin {N : Nat → Nat} {T : Nat → Nat → Int32} {E E1 : Nat → Int64} {hg ag mn sd tk : Nat → Int32} {p th : Int32} (h : sMR N T E hg ag mn sd tk) (hE : sRE E1 ((nFin N T p th).2 0) ((nFin N T p th).1 1)) : sMR (nFin N T p th).1 (nFin N T p th).2 E1 hg ag mn sd (upd tk th.toNatClampNeg (-1)) := by
  obtain ⟨h1, h2, h3, h4, h5⟩ := h
  refine ⟨hE, h2, h3, sSD_keep h4 rfl (fun m => by simp [nFin, sNote, va_up, z20_0, z20_1, z20_2, z20_3, z20_4, z20_5, z20_6, z20_7, z20_8, z20_9, z20_10, z20_11, z20_12, z20_13, z20_14, z20_15, z20_16, z20_17, z20_18, z20_19]) (fun m => by simp [nFin, sNote, va_up, z20_0, z20_1, z20_2, z20_3, z20_4, z20_5, z20_6, z20_7, z20_8, z20_9, z20_10, z20_11, z20_12, z20_13, z20_14, z20_15, z20_16, z20_17, z20_18, z20_19]), ?_⟩
  intro t ht
  show upd tk th.toNatClampNeg (-1) t = upd (T 18) th.toNatClampNeg (-1) t
  by_cases e : t = th.toNatClampNeg
  · simp [upd, e]
  · simp only [upd, e, if_false]
    exact h5 t ht
/-- a text whose characters from j on have gone up by one place -/
def sSh (f : Nat → Int32) (j n : Nat) : Nat → Int32 := fun i => if j < i ∧ i ≤ n then f (i - 1) else f i
theorem sSh_0 {f : Nat → Int32} {n : Nat} : sSh f n n = f := by
  funext i
  simp only [sSh]
  rw [if_neg (by omega)]
theorem sSh_step {f : Nat → Int32} {n i : Nat} (h : i < n) : upd (sSh f (n - i) n) (n - i) (sSh f (n - i) n (n - (i + 1))) = sSh f (n - (i + 1)) n := by
  funext k
  by_cases e : k = n - i
  · subst e
    simp only [upd, if_true, sSh]
    rw [if_neg (by omega), if_pos (by omega)]
    congr 1
  · simp only [upd, e, if_false, sSh]
    by_cases h2 : n - i < k ∧ k ≤ n
    · rw [if_pos h2, if_pos (by omega)]
    · rw [if_neg h2, if_neg (by omega)]
theorem sSh_fin {f : Nat → Int32} {p n : Nat} {c : Int32} : upd (sSh f p n) p c = sIns f p n c := by
  funext k
  simp only [upd, sSh, sIns]
theorem sSh_ch {f : Nat → Int32} {j n : Nat} (h : ∀ k, ∃ x : Nat, x < 65536 ∧ f k = nI x) (k : Nat) : ∃ x : Nat, x < 65536 ∧ sSh f j n k = nI x := by
  simp only [sSh]
  split
  · exact h _
  · exact h _
theorem sIn_0n {a : Int32} {n : Nat} (hn : n < 2 ^ 31) (h : sIn a 0 (nI n) = true) : a.toNatClampNeg ≤ n ∧ a = nI a.toNatClampNeg := by
  simp only [sIn, Bool.and_eq_true, decide_eq_true_eq, Int32.le_iff_toInt_le, show (0 : Int32).toInt = 0 from by decide, nI_toInt hn] at h
  obtain ⟨j, hj, rfl⟩ := nI_of (x := a) (by rw [Int32.lt_iff_toInt_lt, show (0 : Int32).toInt = 0 from by decide]; omega)
  rw [nI_toInt hj] at h
  rw [nI_clamp hj]
  exact ⟨by omega, rfl⟩
theorem sPredI {n i : Nat} (h : i < n) : nI (n - i) - 1 = nI (n - (i + 1)) := by
  rw [show n - i = (n - (i + 1)) + 1 by omega, nI_pred]
theorem sPredJ {n i : Nat} (h : i < n) : nI (n - i) + (-1) = nI (n - (i + 1)) := by
  rw [show n - i = (n - (i + 1)) + 1 by omega, pk_m1]
theorem sK1_n {a : Bool} (h : ¬ sK1 a = 0) : a = false := by cases a <;> simp_all [sK1]
/-- who asked, as bits: one bit is left of x and x - 1 where two asked -/
theorem sBit2 : ∀ i, i < 9 → ∀ j, j < 9 → ((((1 : Int32) <<< (nI i &&& 31)) ||| ((1 : Int32) <<< (nI j &&& 31))) &&& ((((1 : Int32) <<< (nI i &&& 31)) ||| ((1 : Int32) <<< (nI j &&& 31))) - 1) = 0) = (i = j) := by decide +kernel
theorem sBit1 : ∀ j, j < 9 → (((1 : Int32) <<< (nI j &&& 31)) &&& (((1 : Int32) <<< (nI j &&& 31)) - 1) = 0) := by decide +kernel
theorem sAsk {a k p : Int32} (hp : vp_in p 9) (hk : k = -1 ∨ vp_in k 9) (ha : a = if k = -1 then 0 else (1 : Int32) <<< (k &&& 31)) : decide ((a ||| ((1 : Int32) <<< (p &&& 31))) &&& ((a ||| ((1 : Int32) <<< (p &&& 31))) - 1) = 0) = (decide (k = -1) || decide (k = p)) := by
  obtain ⟨j, hj, rfl⟩ := vp_in_of hp (by omega)
  rw [ha]
  rcases hk with rfl | hk
  · rw [if_pos rfl]
    simp [sBit1 j hj]
  · obtain ⟨i, hi, rfl⟩ := vp_in_of hk (by omega)
    have hne : ¬ nI i = -1 := by
      intro e
      rw [e] at hk
      exact hk (Or.inl (by decide))
    rw [if_neg hne, decide_eq_false hne, Bool.false_or]
    exact decide_eq_decide.mpr ((iff_of_eq (sBit2 i hi j hj)).trans (nI_eq (by omega) (by omega)).symm)
theorem sMR_take1 {N : Nat → Nat} {T : Nat → Nat → Int32} {E E1 : Nat → Int64} {hg ag mn sd tk : Nat → Int32} {p t x : Int32} (h : sMR N T E hg ag mn sd tk) (hc : sComes T p t.toNatClampNeg = true) (hE : sRE E1 ((nTake N T p t).2 0) ((nTake N T p t).1 1)) : sMR (nTake N T p t).1 (nTake N T p t).2 E1 (upd hg t.toNatClampNeg (-1)) (upd ag t.toNatClampNeg x) mn sd tk := by
  obtain ⟨h1, h2, h3, h4, h5⟩ := h
  have e : nTake N T p t = sNote N (va_up T 10 (upd (T 10) t.toNatClampNeg 1)) 2 p t := if_pos hc
  rw [e] at hE ⊢
  refine ⟨hE, ?_, ?_, sSD_keep h4 rfl (fun m => by simp [sNote, va_up, z20_0, z20_1, z20_10]) (fun m => by simp [sNote, va_up, z20_0, z20_1, z20_10]), h5⟩
  · intro k hk
    show upd hg t.toNatClampNeg (-1) k = if upd (T 10) t.toNatClampNeg 1 k = 0 then T 8 k else -1
    by_cases e : k = t.toNatClampNeg
    · simp [upd, e]
    · simp only [upd, e, if_false]
      exact h2 k hk
  · intro k hk h0
    have h0 : upd (T 10) t.toNatClampNeg 1 k = 0 := h0
    show upd ag t.toNatClampNeg x k = if T 9 k = -1 then 0 else (1 : Int32) <<< (T 9 k &&& 31)
    by_cases e : k = t.toNatClampNeg
    · simp [upd, e] at h0
    · simp only [upd, e, if_false] at h0 ⊢
      exact h3 k hk h0
theorem sMR_take2 {N : Nat → Nat} {T : Nat → Nat → Int32} {E : Nat → Int64} {hg ag mn sd tk : Nat → Int32} {p t : Int32} (h : sMR N T E hg ag mn sd tk) (hp : vp_in p 9) (ht : t.toNatClampNeg < N 2) (h9 : T 9 t.toNatClampNeg = -1 ∨ vp_in (T 9 t.toNatClampNeg) 9) (h0 : T 10 t.toNatClampNeg = 0) (hc : sComes T p t.toNatClampNeg = false) : sMR (nTake N T p t).1 (nTake N T p t).2 E hg (upd ag t.toNatClampNeg (ag t.toNatClampNeg ||| ((1 : Int32) <<< (p &&& 31)))) mn sd tk := by
  obtain ⟨h1, h2, h3, h4, h5⟩ := h
  have e : nTake N T p t = (N, va_up T 9 (upd (T 9) t.toNatClampNeg p)) := if_neg (by rw [hc]; decide)
  rw [e]
  have hp1 : ¬ p = -1 := by
    intro e
    rw [e] at hp
    exact hp (Or.inl (by decide))
  refine ⟨h1, h2, ?_, sSD_keep h4 rfl (fun m => rfl) (fun m => by simp [va_up, z20_9]), h5⟩
  intro k hk g0
  have g0 : T 10 k = 0 := g0
  show upd ag _ _ k = if upd (T 9) t.toNatClampNeg p k = -1 then 0 else (1 : Int32) <<< (upd (T 9) t.toNatClampNeg p k &&& 31)
  by_cases e : k = t.toNatClampNeg
  · simp only [upd, e, if_true, hp1, if_false]
    rw [h3 _ ht h0]
    simp only [sComes, Bool.or_eq_false_iff, Bool.and_eq_false_iff, Bool.not_eq_false', decide_eq_true_eq, decide_eq_false_iff_not] at hc
    rcases hc.2 with e9 | e9
    · rw [if_pos e9]; simp
    · rw [e9]
      rw [if_neg hp1]
      simp
  · simp only [upd, e, if_false]
    exact h3 k hk g0
theorem sMeantTo_in {t : Nat → Int32} : ∀ {k : Nat}, sMeantTo t k = -1 ∨ vp_in (sMeantTo t k) 9
  | 0 => Or.inl rfl
  | k + 1 => by
    unfold sMeantTo
    split
    · rename_i h
      right
      simp only [sCalls, Bool.and_eq_true, decide_eq_true_eq, Int32.le_iff_toInt_le, show (48 : Int32).toInt = 48 from by decide, show (56 : Int32).toInt = 56 from by decide] at h
      have hv : vp_in (t (k + 1)) 57 := vp_in_iff.mpr ⟨by omega, by omega⟩
      obtain ⟨j, hj, e⟩ := vp_in_of hv (by omega)
      rw [e, nI_toInt (by omega)] at h
      rw [e, show (48 : Int32) = nI 48 from rfl, pk_sub (by omega)]
      exact vp_in_nI (by omega) (by omega)
    · exact sMeantTo_in
theorem sHg_ne {v : Int32} (h : vp_in v 8) (e : v = -1) : False := by
  rw [e] at h
  exact h (Or.inl (by decide))
theorem sComes_b {T : Nat → Nat → Int32} {p : Int32} {t : Nat} {b : Bool} (h : ¬ p = T 7 t) (h2 : (decide (T 9 t = -1) || decide (T 9 t = p)) = b) : sComes T p t = !b := by
  unfold sComes
  rw [decide_eq_false h, Bool.false_or, ← h2, Bool.not_or]
