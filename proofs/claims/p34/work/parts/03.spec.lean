/-! what the calls answer, as functions of two tables: N (counters) and T (cells).
N: 0 the hour, 1 entries, 2 tags, 3 alarms, 4 the text's length, 5 messages, 6 threads, 20 + m the length of message m.
T: 0 the entries' numbers, 1 read, 2 left, 3 open, 4 from, 5 to, 6 level, 7 owner, 8 a tag's valve, 9 who asked first, 10 off, 11 watched, 12 limit, 13 high, 14 turns, 15 opens, 16 state, 17 text, 18 task, 19 the shift's entries and what was spilled, 20 + m message m. -/
def sIn (v lo hi : Int32) : Bool := decide (lo ≤ v) && decide (v ≤ hi)
/-- a number that is a place among n -/
def sIx (v : Int32) (n : Nat) : Bool := decide (0 ≤ v.toInt ∧ v.toInt < n)
theorem sIx_in {v : Int32} {n : Nat} : sIx v n = true ↔ vp_in v n := by
  rw [vp_in_iff, sIx, decide_eq_true_eq]
theorem sIx_no {v : Int32} {n : Nat} : sIx v n = false ↔ ¬ vp_in v n := by
  rw [← sIx_in]; cases sIx v n <;> simp
theorem sIn_lit {v : Int32} {k : Nat} {K : Int32} (hK : K.toInt = k) : sIn v 0 K = sIx v (k + 1) := by
  have h0 : (0 : Int32).toInt = 0 := by decide
  rw [Bool.eq_iff_iff]
  simp only [sIn, sIx, Bool.and_eq_true, decide_eq_true_eq, Int32.le_iff_toInt_le, h0, hK]
  omega
theorem sIn_8 {v : Int32} : sIn v 0 8 = sIx v 9 := sIn_lit (k := 8) (by decide)
theorem sIn_7 {v : Int32} : sIn v 0 7 = sIx v 8 := sIn_lit (k := 7) (by decide)
theorem sIn_2 {v : Int32} : sIn v 0 2 = sIx v 3 := sIn_lit (k := 2) (by decide)
theorem sIn_ix {v : Int32} {n : Nat} (h : n < 2 ^ 31) : sIn v 0 (nI n - 1) = sIx v n := by
  cases n with
  | zero =>
    have h0 : (nI 0 - 1).toInt = -1 := by decide
    have h1 : (0 : Int32).toInt = 0 := by decide
    rw [Bool.eq_iff_iff]
    simp only [sIn, sIx, Bool.and_eq_true, decide_eq_true_eq, Int32.le_iff_toInt_le, h0, h1]
    omega
  | succ k =>
    rw [nI_pred]
    exact sIn_lit (nI_toInt (by omega))
def sHi (v : Int32) : Bool := decide (55296 ≤ v) && decide (v ≤ 56319)
def sLo (v : Int32) : Bool := decide (56320 ≤ v) && decide (v ≤ 57343)
def sDuty (N : Nat → Nat) (T : Nat → Nat → Int32) (p : Int32) : Bool := decide (T 2 p.toNatClampNeg = 0) && decide (p - p / 3 * 3 = nI (N 0) / 8 - nI (N 0) / 8 / 3 * 3)
def sMay (N : Nat → Nat) (T : Nat → Nat → Int32) (p : Int32) : Bool := sDuty N T p && decide (T 19 0 ≤ T 1 p.toNatClampNeg)
def sCnt (f : Nat → Bool) : Nat → Nat
  | 0 => 0
  | n + 1 => sCnt f n + if f n then 1 else 0
theorem sCnt_le (f : Nat → Bool) : ∀ n, sCnt f n ≤ n
  | 0 => Nat.le_refl _
  | n + 1 => by
    have := sCnt_le f n
    rw [sCnt]
    split <;> omega
theorem sCnt_congr {f g : Nat → Bool} : ∀ {n : Nat}, (∀ k, k < n → f k = g k) → sCnt f n = sCnt g n
  | 0, _ => rfl
  | n + 1, h => by rw [sCnt, sCnt, sCnt_congr (fun k hk => h k (by omega)), h n (by omega)]
def sAny (f : Nat → Bool) : Nat → Bool
  | 0 => false
  | n + 1 => sAny f n || f n
theorem sAny_congr {f g : Nat → Bool} : ∀ {n : Nat}, (∀ k, k < n → f k = g k) → sAny f n = sAny g n
  | 0, _ => rfl
  | n + 1, h => by rw [sAny, sAny, sAny_congr (fun k hk => h k (by omega)), h n (by omega)]
theorem sAny_iff {f : Nat → Bool} : ∀ {n : Nat}, sAny f n = true ↔ ∃ k, k < n ∧ f k = true
  | 0 => ⟨fun h => (by cases h), fun ⟨k, h, _⟩ => absurd h (Nat.not_lt_zero k)⟩
  | n + 1 => by
    rw [sAny, Bool.or_eq_true, sAny_iff]
    constructor
    · rintro (⟨k, h1, h2⟩ | h)
      · exact ⟨k, by omega, h2⟩
      · exact ⟨n, by omega, h⟩
    · rintro ⟨k, h1, h2⟩
      by_cases hk : k = n
      · subst hk; exact Or.inr h2
      · exact Or.inl ⟨k, by omega, h2⟩
/-- tags on a valve; whether one of somebody else hangs there -/
def sOn (N : Nat → Nat) (T : Nat → Nat → Int32) (v : Int32) : Nat := sCnt (fun t => decide (T 10 t = 0) && decide (T 8 t = v)) (N 2)
def sBar (N : Nat → Nat) (T : Nat → Nat → Int32) (p v : Int32) : Bool := sAny (fun t => decide (T 10 t = 0) && decide (T 8 t = v) && !decide (T 7 t = p)) (N 2)
def sBars (N : Nat → Nat) (T : Nat → Nat → Int32) (p v : Int32) : Int32 := if sDuty N T p = false then 1 else if sMay N T p = false then 2 else if sBar N T p v = true then 3 else 0
/-- the reference's own row of valves: NONE where the tag is off -/
def sHG (N : Nat → Nat) (T : Nat → Nat → Int32) (hg : Nat → Int32) : Prop := ∀ t, t < N 2 → hg t = if T 10 t = 0 then T 8 t else -1
theorem sHG_eq {N : Nat → Nat} {T : Nat → Nat → Int32} {hg : Nat → Int32} {v : Int32} (h : sHG N T hg) (hv : vp_in v 8) {t : Nat} (ht : t < N 2) : decide (hg t = v) = (decide (T 10 t = 0) && decide (T 8 t = v)) := by
  rw [h t ht]
  have hne : ¬ (-1 : Int32) = v := by
    intro e
    rw [← e] at hv
    exact hv (Or.inl (by decide))
  by_cases h0 : T 10 t = 0 <;> simp [h0, hne]
theorem sOn_hg {N : Nat → Nat} {T : Nat → Nat → Int32} {hg : Nat → Int32} {v : Int32} (h : sHG N T hg) (hv : vp_in v 8) : sCnt (fun t => decide (hg t = v)) (N 2) = sOn N T v := sCnt_congr (fun t ht => sHG_eq h hv ht)
theorem sBar_hg {N : Nat → Nat} {T : Nat → Nat → Int32} {hg : Nat → Int32} {p v : Int32} (h : sHG N T hg) (hv : vp_in v 8) : sAny (fun t => decide (hg t = v) && !decide (T 7 t = p)) (N 2) = sBar N T p v := sAny_congr (fun t ht => by rw [sHG_eq h hv ht])
theorem z_none {D : va_G} {cl : List vw_C} {H : Heap} : va_P D cl ([] : va_W) H := fun k q h => by simp at h
theorem zb_n0 {b : Bool} (h : ¬ zb b = 0) : b = true := by cases b <;> simp_all [zb]
theorem zf_zb (b : Bool) : fits .boolean (.int (zb b)) = true := by cases b <;> rfl
theorem sLe0 {n : Nat} (h : n < 2 ^ 31) : nI n ≤ 0 ↔ n = 0 := by
  rw [show (0 : Int32) = nI 0 from rfl, nI_leI h (by omega)]
  omega
theorem sLe0n {n : Nat} (h : n < 2 ^ 31) (z : ¬ nI n ≤ 0) : 0 < n := Nat.pos_of_ne_zero (fun y => z ((sLe0 h).mpr y))
/-- a text's first i signs are whole but for a high one at their end; whether a low one is wanted then -/
def sW (t : Nat → Int32) : Nat → Bool
  | 0 => false
  | n + 1 => sHi (t n)
def sG (t : Nat → Int32) : Nat → Bool
  | 0 => true
  | n + 1 => sG t n && decide (sLo (t n) = sW t n)
def sGood (t : Nat → Int32) (n : Nat) : Bool := (sG t n && decide (0 < n)) && !sW t n
