/-! what the calls throw, answer and leave behind -/
def sK1 (a : Bool) : Int32 := if a then 0 else 1
def sK2 (a b : Bool) : Int32 := if a then (if b then 0 else 2) else 1
def sK3 (a b c : Bool) : Int32 := if a then (if b then (if c then 0 else 3) else 2) else 1
theorem sK1_0 {a : Bool} (h : sK1 a = 0) : a = true := by cases a <;> simp_all [sK1]
theorem sK2_0 {a b : Bool} (h : sK2 a b = 0) : a = true ∧ b = true := by cases a <;> cases b <;> simp_all [sK2]
theorem sK3_0 {a b c : Bool} (h : sK3 a b c = 0) : a = true ∧ b = true ∧ c = true := by cases a <;> cases b <;> cases c <;> simp_all [sK3]
theorem sK1_le {a : Bool} (h : sK1 a ≤ 0) : sK1 a = 0 := by cases a <;> revert h <;> decide
theorem sK2_le {a b : Bool} (h : sK2 a b ≤ 0) : sK2 a b = 0 := by cases a <;> cases b <;> revert h <;> decide
theorem sK3_le {a b c : Bool} (h : sK3 a b c ≤ 0) : sK3 a b c = 0 := by cases a <;> cases b <;> cases c <;> revert h <;> decide
theorem sK1_nle {a : Bool} (h : ¬ sK1 a ≤ 0) : ¬ sK1 a = 0 := by cases a <;> revert h <;> decide
theorem sK2_nle {a b : Bool} (h : ¬ sK2 a b ≤ 0) : ¬ sK2 a b = 0 := by cases a <;> cases b <;> revert h <;> decide
theorem sK3_nle {a b c : Bool} (h : ¬ sK3 a b c ≤ 0) : ¬ sK3 a b c = 0 := by cases a <;> cases b <;> cases c <;> revert h <;> decide
abbrev zS : Type := (Nat → Nat) × (Nat → Nat → Int32)
/-- the number of an entry -/
def sCode (h : Nat) (kind who what : Int32) : Int32 := 10000 * nI h + 1000 * kind + 100 * (who + 1) + what
def sNote (N : Nat → Nat) (T : Nat → Nat → Int32) (kind who what : Int32) : zS := (va_up N 1 (N 1 + 1), va_up T 0 (upd (T 0) (N 1) (sCode (N 0) kind who what)))
def sTurn (N : Nat → Nat) (T : Nat → Nat → Int32) (who v : Int32) (o : Bool) : zS := if T 3 v.toNatClampNeg = zb o then (N, T) else sNote N (va_up T 3 (upd (T 3) v.toNatClampNeg (zb o))) 0 who (v + if o then 10 else 0)
def sEnd (v : Int32) : Bool := sIn v (-1) 2
def sMuch (T : Nat → Nat → Int32) (i : Nat) : Int32 := if T 4 i = -1 then 10 else if T 6 (T 4 i).toNatClampNeg ≤ 10 then T 6 (T 4 i).toNatClampNeg else 10
def sL1 (T : Nat → Nat → Int32) (i : Nat) : Nat → Int32 := if T 4 i = -1 then T 6 else upd (T 6) (T 4 i).toNatClampNeg (T 6 (T 4 i).toNatClampNeg - sMuch T i)
def sFill (T : Nat → Nat → Int32) (i : Nat) : Int32 := sL1 T i (T 5 i).toNatClampNeg + sMuch T i
def sOver (T : Nat → Nat → Int32) (i : Nat) : Int32 := if sFill T i ≤ 1000 then 0 else sFill T i - 1000
def sLed (N : Nat → Nat) (T : Nat → Nat → Int32) (i : Nat) : zS :=
  if T 5 i = -1 then (N, va_up T 6 (sL1 T i))
  else (N, va_up (va_up T 6 (upd (sL1 T i) (T 5 i).toNatClampNeg (sFill T i - sOver T i))) 19 (upd (T 19) 1 (T 19 1 + sOver T i)))
def sMet (T : Nat → Nat → Int32) (a : Nat) : Bool := if T 13 a = 0 then decide (T 6 (T 11 a).toNatClampNeg ≤ T 12 a) else decide (T 12 a ≤ T 6 (T 11 a).toNatClampNeg)
/-- an alarm that is raised now -/
def sRaise (N : Nat → Nat) (T : Nat → Nat → Int32) (a : Nat) : zS := if T 16 a = 0 then sNote N T 3 (-1) (nI a) else (N, T)
def sWatch1 (S : zS) (a : Nat) : zS :=
  if sOn S.1 S.2 (S.2 14 a) = 0 then
    let S2 := sTurn S.1 S.2 (-1) (S.2 14 a) (decide (S.2 15 a = 1))
    (S2.1, va_up S2.2 16 (upd (S2.2 16) a 1))
  else (S.1, va_up S.2 16 (upd (S.2 16) a 2))
def sWatch (N : Nat → Nat) (T : Nat → Nat → Int32) (a : Nat) : zS :=
  if sMet T a = false then (N, va_up T 16 (upd (T 16) a 0)) else if T 16 a = 1 then (N, T) else sWatch1 (sRaise N T a) a
def sLeads : Nat → (Nat → Nat) → (Nat → Nat → Int32) → zS
  | 0, N, T => (N, T)
  | i + 1, N, T => let S := sLeads i N T; if S.2 3 i = 0 then S else sLed S.1 S.2 i
def sWatches : Nat → (Nat → Nat) → (Nat → Nat → Int32) → zS
  | 0, N, T => (N, T)
  | a + 1, N, T => let S := sWatches a N T; sWatch S.1 S.2 a
def sHour (N : Nat → Nat) (T : Nat → Nat → Int32) : zS :=
  let S1 := sLeads 8 N T
  let S := sWatches (S1.1 3) S1.1 S1.2
  (va_up S.1 0 (S.1 0 + 1), if (S.1 0 + 1) % 8 = 0 then va_up S.2 19 (upd (S.2 19) 0 (nI (S.1 1))) else S.2)
def sHours : Nat → (Nat → Nat) → (Nat → Nat → Int32) → zS
  | 0, N, T => (N, T)
  | h + 1, N, T => let S := sHours h N T; sHour S.1 S.2
/-- the calls: what is thrown (0: nothing), the answer, the next state -/
def kPipe (N : Nat → Nat) (T : Nat → Nat → Int32) (v f t : Int32) : Int32 := sK3 (sIx v 8) ((sEnd f && sEnd t) && !decide (f = t)) (decide (T 3 v.toNatClampNeg = 0))
def nPipe (N : Nat → Nat) (T : Nat → Nat → Int32) (v f t : Int32) : zS := (N, va_up (va_up T 4 (upd (T 4) v.toNatClampNeg f)) 5 (upd (T 5) v.toNatClampNeg t))
def kTurn (N : Nat → Nat) (T : Nat → Nat → Int32) (p v : Int32) : Int32 := sK2 (sIx p 9 && sIx v 8) (decide (sBars N T p v = 0))
def kPV (p v : Int32) : Int32 := sK1 (sIx p 9 && sIx v 8)
def kV (v : Int32) (n : Nat) : Int32 := sK1 (sIx v n)
def kHang (N : Nat → Nat) (T : Nat → Nat → Int32) (p v : Int32) : Int32 := sK2 (sIx p 9 && sIx v 8) (sMay N T p && !decide (N 2 = 40))
def nHang (N : Nat → Nat) (T : Nat → Nat → Int32) (p v : Int32) : zS :=
  let S := sNote N (va_up (va_up (va_up (va_up T 7 (upd (T 7) (N 2) p)) 8 (upd (T 8) (N 2) v)) 9 (upd (T 9) (N 2) (-1))) 10 (upd (T 10) (N 2) 0)) 1 p (nI (N 2))
  (va_up S.1 2 (N 2 + 1), S.2)
def sComes (T : Nat → Nat → Int32) (p : Int32) (t : Nat) : Bool := decide (p = T 7 t) || (!decide (T 9 t = -1) && !decide (T 9 t = p))
def kTake (N : Nat → Nat) (T : Nat → Nat → Int32) (p t : Int32) : Int32 := sK2 (sIx p 9 && sIx t (N 2)) ((decide (T 10 t.toNatClampNeg = 0) && sMay N T p) && (decide (p = T 7 t.toNatClampNeg) || !decide (T 2 (T 7 t.toNatClampNeg).toNatClampNeg = 0)))
def nTake (N : Nat → Nat) (T : Nat → Nat → Int32) (p t : Int32) : zS :=
  if sComes T p t.toNatClampNeg then sNote N (va_up T 10 (upd (T 10) t.toNatClampNeg 1)) 2 p t else (N, va_up T 9 (upd (T 9) t.toNatClampNeg p))
def rValveOf (T : Nat → Nat → Int32) (t : Int32) : Int32 := if T 10 t.toNatClampNeg = 0 then T 8 t.toNatClampNeg else -1
def kRead (N : Nat → Nat) (T : Nat → Nat → Int32) (p : Int32) : Int32 := sK2 (sIx p 9) (decide (T 2 p.toNatClampNeg = 0))
def nRead (N : Nat → Nat) (T : Nat → Nat → Int32) (p : Int32) : zS := (N, va_up T 1 (upd (T 1) p.toNatClampNeg (nI (N 1))))
def rLeave (N : Nat → Nat) (T : Nat → Nat → Int32) (p : Int32) : Int32 := nI (sCnt (fun t => decide (T 10 t = 0) && decide (T 7 t = p)) (N 2))
def nLeave (N : Nat → Nat) (T : Nat → Nat → Int32) (p : Int32) : zS := sNote N (va_up T 2 (upd (T 2) p.toNatClampNeg 1)) 4 p 0
def kAdv (N : Nat → Nat) (h : Int32) : Int32 := sK2 (sIn h 1 100) (decide (nI (N 0) + h ≤ 2000))
def kAlarm (N : Nat → Nat) (ves lim v : Int32) : Int32 := sK3 (sIx ves 3 && sIx v 8) (sIn lim 0 1000) (!decide (N 3 = 10))
def nAlarm (N : Nat → Nat) (T : Nat → Nat → Int32) (ves lim : Int32) (hi : Bool) (v : Int32) (op : Bool) : zS :=
  (va_up N 3 (N 3 + 1), va_up (va_up (va_up (va_up (va_up T 11 (upd (T 11) (N 3) ves)) 12 (upd (T 12) (N 3) lim)) 13 (upd (T 13) (N 3) (zb hi))) 14 (upd (T 14) (N 3) v)) 15 (upd (T 15) (N 3) (zb op)))
def kIns (N : Nat → Nat) (pl : Int32) : Int32 := sK2 (sIn pl 0 (nI (N 4))) (!decide (N 4 = 40))
def sIns (f : Nat → Int32) (p n : Nat) (ch : Int32) : Nat → Int32 := fun j => if j = p then ch else if p < j ∧ j ≤ n then f (j - 1) else f j
def nIns (N : Nat → Nat) (T : Nat → Nat → Int32) (pl ch : Int32) : zS := (va_up N 4 (N 4 + 1), va_up T 17 (sIns (T 17) pl.toNatClampNeg (N 4) ch))
/-- the person that a text makes a task for: the last such place -/
def sCalls (t : Nat → Int32) (k : Nat) : Bool := decide (t k = 64) && (decide (48 ≤ t (k + 1)) && decide (t (k + 1) ≤ 56))
def sMeantTo (t : Nat → Int32) : Nat → Int32
  | 0 => -1
  | k + 1 => if sCalls t k then t (k + 1) - 48 else sMeantTo t k
def sMeant (t : Nat → Int32) (n : Nat) : Int32 := sMeantTo t (n - 1)
def kPost (N : Nat → Nat) (T : Nat → Nat → Int32) (p th : Int32) : Int32 := sK2 (sIx p 9 && (decide (th = -1) || sIx th (N 6))) ((decide (T 2 p.toNatClampNeg = 0) && sGood (T 17) (N 4)) && !decide (N 5 = 60))
def rPost (N : Nat → Nat) (th : Int32) : Int32 := if th = -1 then nI (N 6) else th
def sAssign (N : Nat → Nat) (T : Nat → Nat → Int32) (th who : Int32) : zS := if who = -1 then (N, T) else sNote N (va_up T 18 (upd (T 18) th.toNatClampNeg who)) 5 who th
def nPost0 (N : Nat → Nat) (T : Nat → Nat → Int32) (th : Int32) : zS :=
  (va_up (va_up (va_up (if th = -1 then va_up N 6 (N 6 + 1) else N) (20 + N 5) (N 4)) 5 (N 5 + 1)) 4 0, va_up (if th = -1 then va_up T 18 (upd (T 18) (N 6) (-1)) else T) (20 + N 5) (T 17))
def nPost (N : Nat → Nat) (T : Nat → Nat → Int32) (th : Int32) : zS := sAssign (nPost0 N T th).1 (nPost0 N T th).2 (rPost N th) (sMeant (T 17) (N 4))
def kFin (N : Nat → Nat) (T : Nat → Nat → Int32) (p th : Int32) : Int32 := sK2 (sIx p 9 && sIx th (N 6)) (decide (T 18 th.toNatClampNeg = p) && decide (T 2 p.toNatClampNeg = 0))
def nFin (N : Nat → Nat) (T : Nat → Nat → Int32) (p th : Int32) : zS := sNote N (va_up T 18 (upd (T 18) th.toNatClampNeg (-1))) 6 p th
/-- the signs of a text: how many in its first k characters, and each -/
def sPair (a b : Int32) : Int32 := 65536 + (a - 55296) * 1024 + b - 56320
def sLen (t : Nat → Int32) : Nat → Nat
  | 0 => 0
  | k + 1 => if sHi (t k) then sLen t k else sLen t k + 1
def sSgn (t : Nat → Int32) : Nat → Nat → Int32
  | 0 => fun _ => 0
  | k + 1 => if sHi (t k) then sSgn t k else upd (sSgn t k) (sLen t k) (if sW t k then sPair (t (k - 1)) (t k) else t k)
def rSigns (N : Nat → Nat) (T : Nat → Nat → Int32) (m : Nat) : Nat := sLen (T (20 + m)) (N (20 + m))
def kSignAt (N : Nat → Nat) (m pl : Int32) : Int32 := sK1 (sIx m (N 5) && decide (0 ≤ pl))
def rSignAt (N : Nat → Nat) (T : Nat → Nat → Int32) (m pl : Int32) (back : Bool) : Int32 :=
  if nI (rSigns N T m.toNatClampNeg) ≤ pl then -1 else sSgn (T (20 + m.toNatClampNeg)) (N (20 + m.toNatClampNeg)) (if back then rSigns N T m.toNatClampNeg - 1 - pl.toNatClampNeg else pl.toNatClampNeg)
/-- what the reference keeps beside (N, T) -/
def sPk (c : Nat → Int32) (n j : Nat) : Nat := (c (2 * j)).toNatClampNeg + if 2 * j + 1 < n then (c (2 * j + 1)).toNatClampNeg * 4294967296 else 0
def sRE (E : Nat → Int64) (c : Nat → Int32) (n : Nat) : Prop := (∀ k, k < n → ∃ x : Nat, x < 1073741824 ∧ c k = nI x) ∧ ∀ j, 2 * j < n → E j = lN (sPk c n j)
def sAG (N : Nat → Nat) (T : Nat → Nat → Int32) (ag : Nat → Int32) : Prop := ∀ t, t < N 2 → T 10 t = 0 → ag t = if T 9 t = -1 then 0 else (1 : Int32) <<< (T 9 t &&& 31)
def sSD (N : Nat → Nat) (T : Nat → Nat → Int32) (mn sd : Nat → Int32) : Prop := ∀ m, m < N 5 → mn m = nI (N (20 + m)) ∧ ∀ k, k < N (20 + m) → sd (40 * m + k) = T (20 + m) k
def sTK (N : Nat → Nat) (T : Nat → Nat → Int32) (tk : Nat → Int32) : Prop := ∀ t, t < N 6 → tk t = T 18 t
def sMR (N : Nat → Nat) (T : Nat → Nat → Int32) (E : Nat → Int64) (hg ag mn sd tk : Nat → Int32) : Prop := sRE E (T 0) (N 1) ∧ sHG N T hg ∧ sAG N T ag ∧ sSD N T mn sd ∧ sTK N T tk
/-- alarms that have answered -/
def sAns (T : Nat → Nat → Int32) (n : Nat) : Nat := sCnt (fun a => decide (T 16 a = 1)) n
/-- what holds of (N, T) whatever was called; K calls so far, a alarms watched in this hour -/
def sInv (N : Nat → Nat) (T : Nat → Nat → Int32) (K a : Nat) : Prop :=
  (N 0 ≤ 2000 ∧ N 2 ≤ 40 ∧ N 3 ≤ 10 ∧ N 4 ≤ 40 ∧ N 5 ≤ 60 ∧ N 6 ≤ N 5 ∧ N 1 + N 3 ≤ K + N 3 * N 0 + a + sAns T (N 3)) ∧
  (∀ i, (T 2 i = 0 ∨ T 2 i = 1) ∧ (T 3 i = 0 ∨ T 3 i = 1) ∧ (T 10 i = 0 ∨ T 10 i = 1) ∧ (T 13 i = 0 ∨ T 13 i = 1) ∧ (T 15 i = 0 ∨ T 15 i = 1)) ∧
  (∀ v, v < 8 → sEnd (T 4 v) = true ∧ sEnd (T 5 v) = true ∧ ¬ T 4 v = T 5 v) ∧
  (∀ t, t < N 2 → vp_in (T 7 t) 9 ∧ vp_in (T 8 t) 8 ∧ (T 9 t = -1 ∨ vp_in (T 9 t) 9)) ∧
  (∀ a, a < N 3 → vp_in (T 11 a) 3 ∧ vp_in (T 14 a) 8 ∧ (T 16 a = 0 ∨ T 16 a = 1 ∨ T 16 a = 2)) ∧ (∀ a, N 3 ≤ a → T 16 a = 0) ∧
  (∀ m, m < N 5 → N (20 + m) ≤ 40 ∧ sGood (T (20 + m)) (N (20 + m)) = true) ∧
  (∀ t, t < N 6 → T 18 t = -1 ∨ vp_in (T 18 t) 9) ∧ (∀ t, N 6 ≤ t → T 18 t = -1) ∧
  (∀ j, ∃ x : Nat, x < 65536 ∧ T 17 j = nI x)
