/-! the class's world: twelve fixed cells, and a pool by roles -/
def zSt (X : Nat → Nat × va_E) (P : Nat → Prop) (A : Nat → Nat) (E : Nat → va_E) (w : va_W) : Prop :=
  (∀ j, j < 12 → w[j]? = some (X j)) ∧ (∀ i, P i → ∃ k, 12 ≤ k ∧ w[k]? = some (A i, E i)) ∧ ∀ i j, P i → P j → A i = A j → i = j
theorem zSt.cg {X X2 : Nat → Nat × va_E} {P P2 : Nat → Prop} {A A2 : Nat → Nat} {E E2 : Nat → va_E} {w : va_W} (h : zSt X P A E w) (hX : ∀ j, j < 12 → X2 j = X j) (hP : ∀ i, P2 i → P i) (hA : ∀ i, P2 i → A2 i = A i) (hE : ∀ i, P2 i → E2 i = E i) : zSt X2 P2 A2 E2 w :=
  ⟨fun j hj => by rw [hX j hj]; exact h.1 j hj, fun i hi => by rw [hA i hi, hE i hi]; exact h.2.1 i (hP i hi), fun i j hi hj hAA => h.2.2 i j (hP i hi) (hP j hj) (by rw [← hA i hi, ← hA j hj]; exact hAA)⟩
theorem zSt.setX {X : Nat → Nat × va_E} {P : Nat → Prop} {A : Nat → Nat} {E : Nat → va_E} {w : va_W} (h : zSt X P A E w) {j : Nat} (hj : j < 12) (x : Nat × va_E) : zSt (fun i => if i = j then x else X i) P A E (w.set j x) := by
  refine ⟨fun i hi => ?_, fun i hi => ?_, h.2.2⟩
  · by_cases c : i = j
    · subst c
      have h1 := h.1 i hi
      have h2 : i < w.length := (List.getElem?_eq_some_iff.mp h1).1
      show (w.set i x)[i]? = some (if i = i then x else X i)
      rw [if_pos rfl, List.getElem?_set_self h2]
    · show (w.set j x)[i]? = some (if i = j then x else X i)
      rw [if_neg c, List.getElem?_set_ne (fun z => c z.symm)]
      exact h.1 i hi
  · obtain ⟨k, h1, h2⟩ := h.2.1 i hi
    exact ⟨k, h1, by rw [List.getElem?_set_ne (by omega)]; exact h2⟩
theorem zSt.setP {X : Nat → Nat × va_E} {P : Nat → Prop} {A : Nat → Nat} {E : Nat → va_E} {w : va_W} (h : zSt X P A E w) {i0 k : Nat} {e0 : va_E} (hi0 : P i0) (hk : 12 ≤ k) (hw : w[k]? = some (A i0, e0)) (e : va_E) : zSt X P A (va_up E i0 e) (w.set k (A i0, e)) := by
  have hl : k < w.length := (List.getElem?_eq_some_iff.mp hw).1
  refine ⟨fun j hj => ?_, fun i hi => ?_, h.2.2⟩
  · rw [List.getElem?_set_ne (by omega)]
    exact h.1 j hj
  · by_cases c : i = i0
    · subst c
      exact ⟨k, hk, by rw [List.getElem?_set_self hl, va_up_self]⟩
    · obtain ⟨k2, h1, h2⟩ := h.2.1 i hi
      refine ⟨k2, h1, ?_⟩
      have hne : k ≠ k2 := by
        intro z
        subst z
        rw [hw] at h2
        have := congrArg Prod.fst (Option.some.inj h2)
        exact c (h.2.2 i i0 hi hi0 this.symm)
      rw [List.getElem?_set_ne hne, va_up_ne _ _ c]
      exact h2
theorem zSt.push {X : Nat → Nat × va_E} {P P2 : Nat → Prop} {A : Nat → Nat} {E : Nat → va_E} {w : va_W} (h : zSt X P A E w) {i0 q : Nat} (e : va_E) (hP2 : ∀ i, P2 i → i = i0 ∨ P i) (hq : ∀ (k : Nat) (y : va_E), w[k]? = some (q, y) → False) : zSt X P2 (va_up A i0 q) (va_up E i0 e) (w ++ [(q, e)]) := by
  have hl : 12 ≤ w.length := by
    have h1 := h.1 11 (by omega)
    exact (List.getElem?_eq_some_iff.mp h1).1
  have hA : ∀ i, P i → A i = q → False := fun i hi hz => by
    obtain ⟨k, _, h2⟩ := h.2.1 i hi
    exact hq k (E i) (by rw [h2, hz])
  refine ⟨fun j hj => ?_, fun i hi => ?_, fun i j hi hj hij => ?_⟩
  · rw [List.getElem?_append_left (by omega)]
    exact h.1 j hj
  · by_cases c : i = i0
    · subst c
      exact ⟨w.length, hl, by rw [List.getElem?_append_right (Nat.le_refl _), Nat.sub_self, va_up_self, va_up_self]; rfl⟩
    · obtain ⟨k, h1, h2⟩ := h.2.1 i ((hP2 i hi).resolve_left c)
      refine ⟨k, h1, ?_⟩
      rw [List.getElem?_append_left (List.getElem?_eq_some_iff.mp h2).1, va_up_ne _ _ c, va_up_ne _ _ c]
      exact h2
  · by_cases c : i = i0 <;> by_cases d : j = i0
    · rw [c, d]
    · subst c
      rw [va_up_self, va_up_ne _ _ d] at hij
      exact (hA j ((hP2 j hj).resolve_left d) hij.symm).elim
    · subst d
      rw [va_up_self, va_up_ne _ _ c] at hij
      exact (hA i ((hP2 i hi).resolve_left c) hij).elim
    · rw [va_up_ne _ _ c, va_up_ne _ _ d] at hij
      exact h.2.2 i j ((hP2 i hi).resolve_left c) ((hP2 j hj).resolve_left d) hij
/-- how many entries the log has room for; how many things a list has -/
def zcap : Nat → Nat
  | 0 => 16
  | n + 1 => if n < zcap n then zcap n else 2 * zcap n
def lcap : Nat → Nat
  | 0 => 0
  | n + 1 => if n < lcap n then lcap n else if n = 0 then 10 else lcap n + lcap n / 2
theorem zcap_16 : ∀ n, 16 ≤ zcap n
  | 0 => Nat.le_refl _
  | n + 1 => by
    have := zcap_16 n
    show 16 ≤ if n < zcap n then zcap n else 2 * zcap n
    split <;> omega
theorem zcap_le : ∀ n, n ≤ zcap n
  | 0 => Nat.zero_le _
  | n + 1 => by
    have := zcap_le n
    have h16 := zcap_16 n
    show n + 1 ≤ if n < zcap n then zcap n else 2 * zcap n
    split <;> omega
theorem zcap_mono (n : Nat) : zcap n ≤ zcap (n + 1) := by
  show zcap n ≤ if n < zcap n then zcap n else 2 * zcap n
  split <;> omega
theorem zcap_top : ∀ n, zcap n ≤ 16 + 2 * n
  | 0 => Nat.le_refl _
  | n + 1 => by
    have := zcap_top n
    have h2 := zcap_le n
    show (if n < zcap n then zcap n else 2 * zcap n) ≤ 16 + 2 * (n + 1)
    split
    · omega
    · omega
theorem lcap_all : ∀ n, n < 61 → n ≤ lcap n ∧ lcap n ≤ 73 ∧ (0 < n → 10 ≤ lcap n) := by decide +kernel
/-- the roles that live: 0 to 7 valves, 8 the log's array, 9 10 11 the lists' arrays, 100 on tags, 200 on alarms, 300 on messages, 400 on what they say -/
def cL (N : Nat → Nat) (i : Nat) : Prop := i < 8 ∨ i = 8 ∨ (i = 9 ∧ 0 < N 2) ∨ (i = 10 ∧ 0 < N 3) ∨ (i = 11 ∧ 0 < N 5) ∨ (100 ≤ i ∧ i < 100 + N 2) ∨ (200 ≤ i ∧ i < 200 + N 3) ∨ (300 ≤ i ∧ i < 300 + N 5) ∨ (400 ≤ i ∧ i < 400 + N 5)
/-- a list's array: the first n of the roles from o on -/
def cGa (A : Nat → Nat) (o n k : Nat) : Option Nat := if k < n then some (A (o + k)) else none
def cE (G : zG) (A : Nat → Nat) (N : Nat → Nat) (T : Nat → Nat → Int32) (g : Nat → Nat → Int32) (i : Nat) : va_E :=
  if i < 8 then .inr (6, [.int (T 3 i), .int (T 4 i), .int (T 5 i)])
  else if i = 8 then .inl (G.2 0, zcap (N 1), .inl (g 8))
  else if i = 9 then .inl (G.2 5, lcap (N 2), .inr (.inr (.inr (.inr (cGa A 100 (N 2))))))
  else if i = 10 then .inl (G.2 5, lcap (N 3), .inr (.inr (.inr (.inr (cGa A 200 (N 3))))))
  else if i = 11 then .inl (G.2 5, lcap (N 5), .inr (.inr (.inr (.inr (cGa A 300 (N 5))))))
  else if i < 200 then .inr (5, [.int (T 7 (i - 100)), .int (T 8 (i - 100)), .int (T 9 (i - 100)), .int (T 10 (i - 100))])
  else if i < 300 then .inr (1, [.int (T 11 (i - 200)), .int (T 12 (i - 200)), .int (T 13 (i - 200)), .int (T 14 (i - 200)), .int (T 15 (i - 200)), .int (T 16 (i - 200))])
  else if i < 400 then .inr (4, [.ref (A (i + 100))])
  else .inl (G.2 0, sLen (T (20 + (i - 400))) (N (20 + (i - 400))), .inl (sSgn (T (20 + (i - 400))) (N (20 + (i - 400)))))
/-- a list's array, or what all empty lists have -/
def cDt (d n a : Nat) : Value := if n = 0 then .ref d else .ref a
def cX (G : zG) (d : Nat) (r : Nat → Nat) (A : Nat → Nat) (mc : Nat → Int32) (N : Nat → Nat) (T : Nat → Nat → Int32) (j : Nat) : Nat × va_E :=
  match j with
  | 0 => (r 0, .inr (7, [.ref (r 1), .ref (r 2), .ref (r 3), .ref (r 4), .ref (r 5), .ref (r 6), .ref (r 7), .ref (r 8), .ref (r 9), .ref (r 10), .int (nI (N 0)), .int (T 19 0), .int (T 19 1), .int (nI (N 6))]))
  | 1 => (r 1, .inl (G.2 4, 8, .inr (.inr (.inr (.inr (cGa A 0 8))))))
  | 2 => (r 2, .inl (G.2 0, 3, .inl (T 6)))
  | 3 => (r 3, .inl (G.2 2, 9, .inl (T 2)))
  | 4 => (r 4, .inl (G.2 0, 9, .inl (T 1)))
  | 5 => (r 5, .inr (0, [.int (mc 0), cDt d (N 2) (A 9), .int (nI (N 2))]))
  | 6 => (r 6, .inr (0, [.int (mc 1), cDt d (N 3) (A 10), .int (nI (N 3))]))
  | 7 => (r 7, .inr (0, [.int (mc 2), cDt d (N 5) (A 11), .int (nI (N 5))]))
  | 8 => (r 8, .inl (G.2 0, 60, .inl (T 18)))
  | 9 => (r 9, .inr (3, [.ref (A 8), .int (nI (N 1))]))
  | 10 => (r 10, .inr (2, [.ref (r 11), .int (nI (N 4))]))
  | _ => (r 11, .inl (G.2 3, 40, .inl (T 17)))
def sCQ (G : zG) (d : Nat) (r A : Nat → Nat) (mc : Nat → Int32) (g : Nat → Nat → Int32) (N : Nat → Nat) (T : Nat → Nat → Int32) (w : va_W) : Prop :=
  zSt (cX G d r A mc N T) (cL N) A (cE G A N T g) w ∧ ∀ k, k < N 1 → g 8 k = T 0 k
/-- this world is the class's of (N, T) -/
def sCO (G : zG) (d : Nat) (r : Nat → Nat) (N : Nat → Nat) (T : Nat → Nat → Int32) (w : va_W) : Prop := ∃ (A : Nat → Nat) (mc : Nat → Int32) (g : Nat → Nat → Int32), sCQ G d r A mc g N T w
theorem cE_val {G : zG} {A : Nat → Nat} {N : Nat → Nat} {T : Nat → Nat → Int32} {g : Nat → Nat → Int32} {v : Nat} (h : v < 8) : cE G A N T g v = .inr (6, [.int (T 3 v), .int (T 4 v), .int (T 5 v)]) := if_pos h
theorem cE_log {G : zG} {A : Nat → Nat} {N : Nat → Nat} {T : Nat → Nat → Int32} {g : Nat → Nat → Int32} : cE G A N T g 8 = .inl (G.2 0, zcap (N 1), .inl (g 8)) := rfl
theorem cE_tag {G : zG} {A : Nat → Nat} {N : Nat → Nat} {T : Nat → Nat → Int32} {g : Nat → Nat → Int32} {t : Nat} (h : t < 100) : cE G A N T g (100 + t) = .inr (5, [.int (T 7 t), .int (T 8 t), .int (T 9 t), .int (T 10 t)]) := by
  rw [cE, if_neg (by omega), if_neg (by omega), if_neg (by omega), if_neg (by omega), if_neg (by omega), if_pos (by omega), Nat.add_sub_cancel_left]
theorem cE_alarm {G : zG} {A : Nat → Nat} {N : Nat → Nat} {T : Nat → Nat → Int32} {g : Nat → Nat → Int32} {a : Nat} (h : a < 100) : cE G A N T g (200 + a) = .inr (1, [.int (T 11 a), .int (T 12 a), .int (T 13 a), .int (T 14 a), .int (T 15 a), .int (T 16 a)]) := by
  rw [cE, if_neg (by omega), if_neg (by omega), if_neg (by omega), if_neg (by omega), if_neg (by omega), if_neg (by omega), if_pos (by omega), Nat.add_sub_cancel_left]
theorem cE_msg {G : zG} {A : Nat → Nat} {N : Nat → Nat} {T : Nat → Nat → Int32} {g : Nat → Nat → Int32} {m : Nat} (h : m < 100) : cE G A N T g (300 + m) = .inr (4, [.ref (A (400 + m))]) := by
  rw [cE, if_neg (by omega), if_neg (by omega), if_neg (by omega), if_neg (by omega), if_neg (by omega), if_neg (by omega), if_neg (by omega), if_pos (by omega), show 300 + m + 100 = 400 + m by omega]
theorem cE_say {G : zG} {A : Nat → Nat} {N : Nat → Nat} {T : Nat → Nat → Int32} {g : Nat → Nat → Int32} {m : Nat} : cE G A N T g (400 + m) = .inl (G.2 0, sLen (T (20 + m)) (N (20 + m)), .inl (sSgn (T (20 + m)) (N (20 + m)))) := by
  rw [cE, if_neg (by omega), if_neg (by omega), if_neg (by omega), if_neg (by omega), if_neg (by omega), if_neg (by omega), if_neg (by omega), if_neg (by omega), Nat.add_sub_cancel_left]
theorem zHi_le {v : Int32} : (v ≤ 56319) = (v < 56320) := by
  have h1 : (56319 : Int32).toInt = 56319 := by decide
  have h2 : (56320 : Int32).toInt = 56320 := by decide
  rw [Int32.le_iff_toInt_le, Int32.lt_iff_toInt_lt, h1, h2, eq_iff_iff]
  omega
theorem zLo_le {v : Int32} : (v ≤ 57343) = (v < 57344) := by
  have h1 : (57343 : Int32).toInt = 57343 := by decide
  have h2 : (57344 : Int32).toInt = 57344 := by decide
  rw [Int32.le_iff_toInt_le, Int32.lt_iff_toInt_lt, h1, h2, eq_iff_iff]
  omega
theorem zIn_lt {n : Nat} {a : Int32} (hn : n < 2 ^ 31) (h0 : 0 ≤ a) (h1 : a < nI n) : vp_in a n := by
  have h2 : (0 : Int32).toInt = 0 := by decide
  rw [Int32.le_iff_toInt_le, h2] at h0
  rw [Int32.lt_iff_toInt_lt, nI_toInt hn] at h1
  exact vp_in_iff.mpr ⟨h0, h1⟩
theorem sG_cutn {t : Nat → Int32} {i : Nat} (h : ¬ sLo (t i) = sW t i) : ∀ {n : Nat}, i < n → sG t n = false
  | 0, h1 => absurd h1 (Nat.not_lt_zero i)
  | n + 1, h1 => by
    by_cases c : i = n
    · subst c
      rw [sG]
      simp [h]
    · rw [sG, sG_cutn h (by omega), Bool.false_and]
theorem sGood_no {t : Nat → Int32} {i n : Nat} (_ : sG t i = true) (_ : i ≤ n) (h1 : i < n) (h : ¬ sLo (t i) = sW t i) : sGood t n = false := by
  rw [sGood, sG_cutn h h1]
  simp
theorem zNeg1 {m : Nat} (hm : m < 2 ^ 31) (h : nI m - 1 < 0) : m = 0 := by
  cases m with
  | zero => rfl
  | succ k =>
    have h0 : (0 : Int32).toInt = 0 := by decide
    rw [nI_pred, Int32.lt_iff_toInt_lt, h0, nI_toInt (by omega)] at h
    omega
theorem zPos1 {m : Nat} (_ : m < 2 ^ 31) (h : ¬ nI m - 1 < 0) : 0 < m := by
  cases m with
  | zero => exact absurd (show nI 0 - 1 < 0 by decide) h
  | succ k => exact Nat.succ_pos k
theorem zSub2 {n : Nat} (h : 0 < n) : nI n - 2 = nI (n - 1 - 0) - 1 := by
  obtain ⟨k, rfl⟩ : ∃ k, n = k + 1 := ⟨n - 1, by omega⟩
  rw [Nat.sub_zero, Nat.add_sub_cancel, show (2 : Int32) = 1 + 1 by decide, ← Int32.sub_sub, nI_pred]
theorem nI_48 {j : Nat} (h : 48 ≤ j) : nI j - 48 = nI (j - 48) := by
  have h1 : nI (j - 48) + nI 48 = nI j := by rw [nI_add, Nat.sub_add_cancel h]
  rw [← h1]
  exact Int32.add_sub_cancel _ _
theorem zDigit {x : Int32} (h1 : 48 ≤ x) (h2 : x ≤ 56) : ∃ j, j ≤ 8 ∧ x - 48 = nI j := by
  have a1 : (48 : Int32).toInt = 48 := by decide
  have a3 : (0 : Int32).toInt = 0 := by decide
  have h3 : ¬ x < 0 := by
    rw [Int32.lt_iff_toInt_lt, a3]
    rw [Int32.le_iff_toInt_le, a1] at h1
    omega
  obtain ⟨j, hj, rfl⟩ := nI_of2 (M := 56) (n := 56) (by decide) h3 h2
  rw [Int32.le_iff_toInt_le, a1, nI_toInt (by omega)] at h1
  exact ⟨j - 48, by omega, nI_48 (by omega)⟩
theorem zCalls_lo {t : Nat → Int32} {k : Nat} (h : t (k + 1) - 48 < 0) : ¬ sCalls t k = true := by
  intro z
  simp only [sCalls, Bool.and_eq_true, decide_eq_true_eq] at z
  obtain ⟨j, hj, e⟩ := zDigit z.2.1 z.2.2
  have a3 : (0 : Int32).toInt = 0 := by decide
  rw [e, Int32.lt_iff_toInt_lt, a3, nI_toInt (by omega)] at h
  omega
theorem zCalls_hi {t : Nat → Int32} {k : Nat} (h : 9 ≤ t (k + 1) - 48) : ¬ sCalls t k = true := by
  intro z
  simp only [sCalls, Bool.and_eq_true, decide_eq_true_eq] at z
  obtain ⟨j, hj, e⟩ := zDigit z.2.1 z.2.2
  have a3 : (9 : Int32).toInt = 9 := by decide
  rw [e, Int32.le_iff_toInt_le, a3, nI_toInt (by omega)] at h
  omega
theorem zCalls_ok {t : Nat → Int32} {k : Nat} (h0 : t k = 64) (h1 : ¬ t (k + 1) - 48 < 0) (h2 : t (k + 1) - 48 < 9) : sCalls t k = true := by
  have a9 : (9 : Int32).toInt = 9 := by decide
  have a8 : (8 : Int32).toInt = 8 := by decide
  have h3 : t (k + 1) - 48 ≤ 8 := by
    rw [Int32.lt_iff_toInt_lt, a9] at h2
    rw [Int32.le_iff_toInt_le, a8]
    omega
  obtain ⟨j, hj, e⟩ := nI_of2 (M := 8) (n := 8) (by decide) h1 h3
  have e2 : t (k + 1) = nI (j + 48) := by
    rw [← nI_add, ← e]
    exact (Int32.sub_add_cancel _ _).symm
  have a1 : (48 : Int32).toInt = 48 := by decide
  have a2 : (56 : Int32).toInt = 56 := by decide
  have b1 : (48 : Int32) ≤ nI (j + 48) := by
    rw [Int32.le_iff_toInt_le, a1, nI_toInt (by omega)]
    omega
  have b2 : nI (j + 48) ≤ 56 := by
    rw [Int32.le_iff_toInt_le, a2, nI_toInt (by omega)]
    omega
  rw [sCalls, h0, e2, decide_eq_true b1, decide_eq_true b2]
  rfl
theorem z_self {w : va_W} {k : Nat} {x y : Nat × va_E} (h : w[k]? = some y) : (w.set k x)[k]? = some x := List.getElem?_set_self (List.getElem?_eq_some_iff.mp h).1
theorem z_other {w : va_W} {k j : Nat} {x y : Nat × va_E} (hn : k ≠ j) (h : w[j]? = some y) : (w.set k x)[j]? = some y := by rw [List.getElem?_set_ne hn]; exact h
theorem z_same {w : va_W} {k : Nat} {x : Nat × va_E} (h : w[k]? = some x) : w.set k x = w := by
  refine List.ext_getElem? (fun j => ?_)
  by_cases c : k = j
  · subst c
    rw [z_self h, h]
  · rw [List.getElem?_set_ne c]
/-- a text of which i characters from the n-th down have been moved up -/
def sMv (f : Nat → Int32) (n i : Nat) : Nat → Int32 := fun j => if n - i < j ∧ j ≤ n then f (j - 1) else f j
theorem sMv_0 {f : Nat → Int32} {n : Nat} : sMv f n 0 = f := by
  funext j
  rw [sMv, if_neg (by omega)]
theorem sMv_s {f : Nat → Int32} {n i : Nat} (h : i < n) : upd (sMv f n i) (n - i) (sMv f n i (n - i - 1)) = sMv f n (i + 1) := by
  funext j
  by_cases c : j = n - i
  · subst c
    rw [upd, if_pos rfl, sMv, sMv, if_neg (by omega), if_pos (by omega)]
  · rw [upd, if_neg c, sMv, sMv]
    by_cases d : n - i < j ∧ j ≤ n
    · rw [if_pos d, if_pos (by omega)]
    · rw [if_neg d, if_neg (by omega)]
theorem sMv_end {f : Nat → Int32} {n i p : Nat} {ch : Int32} (_ : p ≤ n) (h : n - i = p) : upd (sMv f n i) p ch = sIns f p n ch := by
  funext j
  by_cases c : j = p
  · rw [upd, if_pos c, sIns, if_pos c]
  · rw [upd, if_neg c, sIns, if_neg c, sMv, h]
theorem sMv_ch {f : Nat → Int32} (h : ∀ j, ∃ x : Nat, x < 65536 ∧ f j = nI x) (n i j : Nat) : ∃ x : Nat, x < 65536 ∧ sMv f n i j = nI x := by
  rw [sMv]
  split
  · exact h _
  · exact h _
theorem zIx_lt {a K : Int32} {k : Nat} (hK : K.toInt = k) (h0 : ¬ a < 0) (h1 : a < K) : sIx a k = true := by
  have h2 : (0 : Int32).toInt = 0 := by decide
  rw [Int32.lt_iff_toInt_lt, h2] at h0
  rw [Int32.lt_iff_toInt_lt, hK] at h1
  rw [sIx, decide_eq_true_eq]
  omega
theorem zIx_ge {a K : Int32} {k : Nat} (hK : K.toInt = k) (h1 : ¬ a < K) : sIx a k = false := by
  rw [Int32.lt_iff_toInt_lt, hK] at h1
  rw [sIx, decide_eq_false_iff_not]
  omega
