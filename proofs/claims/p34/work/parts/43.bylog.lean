/-! what the log tells -/
def zKd (c : Int32) : Int32 := (c - c / 10000 * 10000) / 1000
def zWh (c : Int32) : Int32 := c - c / 100 * 100
def zVa (c : Int32) : Int32 := zWh c - zWh c / 10 * 10
def zOp (c : Int32) : Bool := decide (10 ≤ zWh c)
def sOpL (c : Nat → Int32) (v : Int32) : Nat → Bool
  | 0 => false
  | n + 1 => if zKd (c n) = 0 ∧ zVa (c n) = v then zOp (c n) else sOpL c v n
def sHg1 (f : Int32 → Bool) (x : Int32) : Int32 := if (zKd x = 1 ∨ zKd x = 2) ∧ f (zWh x) = true then (if zKd x = 1 then 1 else -1) else 0
def sHgL (f : Int32 → Bool) (c : Nat → Int32) : Nat → Int32
  | 0 => 0
  | n + 1 => sHgL f c n + sHg1 f (c n)
theorem sOpL_cg {c c2 : Nat → Int32} {v : Int32} : ∀ {n : Nat}, (∀ k, k < n → c k = c2 k) → sOpL c v n = sOpL c2 v n
  | 0, _ => rfl
  | n + 1, h => by rw [sOpL, sOpL, h n (by omega), sOpL_cg (n := n) (fun k hk => h k (by omega))]
theorem sHgL_cg {f f2 : Int32 → Bool} {c c2 : Nat → Int32} : ∀ {n : Nat}, (∀ k, k < n → c k = c2 k ∧ sHg1 f (c2 k) = sHg1 f2 (c2 k)) → sHgL f c n = sHgL f2 c2 n
  | 0, _ => rfl
  | n + 1, h => by rw [sHgL, sHgL, (h n (by omega)).1, (h n (by omega)).2, sHgL_cg (n := n) (fun k hk => h k (by omega))]
def sCd (h kd w x : Nat) : Nat := 10000 * h + 1000 * kd + 100 * w + x
theorem zKd_c {h kd w x : Nat} (h0 : h ≤ 2000) (hk : kd ≤ 6) (hw : w ≤ 9) (hx : x < 100) : zKd (nI (sCd h kd w x)) = nI kd := by
  have hb : sCd h kd w x < 2 ^ 31 := by rw [sCd]; omega
  rw [zKd, show (10000 : Int32) = nI 10000 from rfl, pk_rem hb (by omega) (by omega), show (1000 : Int32) = nI 1000 from rfl, pk_div (by omega) (by omega) (by omega)]
  refine congrArg nI ?_
  rw [sCd]
  omega
theorem zWh_c {h kd w x : Nat} (h0 : h ≤ 2000) (hk : kd ≤ 6) (hw : w ≤ 9) (hx : x < 100) : zWh (nI (sCd h kd w x)) = nI x := by
  have hb : sCd h kd w x < 2 ^ 31 := by rw [sCd]; omega
  rw [zWh, show (100 : Int32) = nI 100 from rfl, pk_rem hb (by omega) (by omega)]
  refine congrArg nI ?_
  rw [sCd]
  omega
theorem zVa_c {h kd w x : Nat} (h0 : h ≤ 2000) (hk : kd ≤ 6) (hw : w ≤ 9) (hx : x < 100) : zVa (nI (sCd h kd w x)) = nI (x % 10) := by
  rw [zVa, zWh_c h0 hk hw hx, show (10 : Int32) = nI 10 from rfl, pk_rem (by omega) (by omega) (by omega)]
theorem zOp_c {h kd w x : Nat} (h0 : h ≤ 2000) (hk : kd ≤ 6) (hw : w ≤ 9) (hx : x < 100) : zOp (nI (sCd h kd w x)) = decide (10 ≤ x) := by
  rw [zOp, zWh_c h0 hk hw hx, show (10 : Int32) = nI 10 from rfl]
  exact decide_eq_decide.mpr (nI_leI (by omega) (by omega))
/-- the log tells which valves are open, and how many tags hang -/
def sLG (N : Nat → Nat) (T : Nat → Nat → Int32) : Prop :=
  (∀ k, k < N 1 → ∃ h kd w x : Nat, h ≤ 2000 ∧ kd ≤ 6 ∧ w ≤ 9 ∧ x < 100 ∧ T 0 k = nI (sCd h kd w x) ∧ ((kd = 1 ∨ kd = 2) → x < N 2)) ∧
  (∀ v, v < 8 → T 3 v = zb (sOpL (T 0) (nI v) (N 1))) ∧ ∀ v, v < 8 → sHgL (fun x => sWas N T x (nI v)) (T 0) (N 1) = nI (sOn N T (nI v))
theorem sLG_eq {N N2 : Nat → Nat} {T T2 : Nat → Nat → Int32} (h : sLG N T) (h1 : N2 1 = N 1) (h2 : N2 2 = N 2) (t0 : T2 0 = T 0) (t3 : T2 3 = T 3) (t8 : T2 8 = T 8) (t10 : T2 10 = T 10) : sLG N2 T2 := by
  unfold sLG sWas sOn at h ⊢
  rw [h1, h2, t0, t3, t8, t10]
  exact h
/-- a new entry, of a number that its parts make -/
theorem sLG_new {N N2 : Nat → Nat} {T T2 : Nat → Nat → Int32} {h0 kd w x : Nat} (h : sLG N T) (b0 : h0 ≤ 2000) (b1 : kd ≤ 6) (b2 : w ≤ 9) (b3 : x < 100) (hx : (kd = 1 ∨ kd = 2) → x < N2 2) (n1 : N2 1 = N 1 + 1) (n2 : N 2 ≤ N2 2) (t0 : T2 0 = upd (T 0) (N 1) (nI (sCd h0 kd w x)))
    (ho : ∀ v, v < 8 → T2 3 v = zb (if kd = 0 ∧ x % 10 = v then decide (10 ≤ x) else sOpL (T 0) (nI v) (N 1)))
    (hw : ∀ v y, v < 8 → y < N 2 → sWas N2 T2 (nI y) (nI v) = sWas N T (nI y) (nI v))
    (hg : ∀ v, v < 8 → nI (sOn N T (nI v)) + (if (kd = 1 ∨ kd = 2) ∧ sWas N2 T2 (nI x) (nI v) = true then (if kd = 1 then 1 else -1) else 0) = nI (sOn N2 T2 (nI v))) : sLG N2 T2 := by
  obtain ⟨a1, a2, a3⟩ := h
  have hne : ∀ k, k < N 1 → upd (T 0) (N 1) (nI (sCd h0 kd w x)) k = T 0 k := fun k hk => upd_no (by omega)
  refine ⟨fun k hk => ?_, fun v hv => ?_, fun v hv => ?_⟩
  · rw [n1] at hk
    rw [t0]
    by_cases c : k = N 1
    · exact ⟨h0, kd, w, x, b0, b1, b2, b3, by rw [c, upd_at], hx⟩
    · obtain ⟨h', kd', w', x', c1, c2, c3, c4, c5, c6⟩ := a1 k (by omega)
      exact ⟨h', kd', w', x', c1, c2, c3, c4, by rw [hne k (by omega), c5], fun z => Nat.lt_of_lt_of_le (c6 z) n2⟩
  · rw [ho v hv, n1, t0, sOpL, upd_at, zKd_c b0 b1 b2 b3, zVa_c b0 b1 b2 b3, zOp_c b0 b1 b2 b3, sOpL_cg (c2 := T 0) hne]
    have e1 : (nI kd = 0) = (kd = 0) := propext (nI_eq (b := 0) (by omega) (by omega))
    have e2 : (nI (x % 10) = nI v) = (x % 10 = v) := propext (nI_eq (by omega) (by omega))
    simp only [e1, e2]
  · rw [n1, t0, sHgL, upd_at, ← hg v hv, ← a3 v hv]
    have e1 : (nI kd = 1) = (kd = 1) := propext (nI_eq (b := 1) (by omega) (by omega))
    have e2 : (nI kd = 2) = (kd = 2) := propext (nI_eq (b := 2) (by omega) (by omega))
    have e3 : sHg1 (fun x => sWas N2 T2 x (nI v)) (nI (sCd h0 kd w x)) = if (kd = 1 ∨ kd = 2) ∧ sWas N2 T2 (nI x) (nI v) = true then (if kd = 1 then 1 else -1) else 0 := by
      rw [sHg1, zKd_c b0 b1 b2 b3, zWh_c b0 b1 b2 b3]
      simp only [e1, e2]
    rw [e3]
    congr 1
    refine sHgL_cg (fun k hk => ⟨hne k hk, ?_⟩)
    obtain ⟨h', kd', w', x', c1, c2, c3, c4, c5, c6⟩ := a1 k hk
    rw [c5, sHg1, sHg1, zKd_c c1 c2 c3 c4, zWh_c c1 c2 c3 c4]
    by_cases z : kd' = 1 ∨ kd' = 2
    · rw [hw v x' hv (c6 z)]
    · have f1 : ¬ (nI kd' = 1 ∨ nI kd' = 2) := by
        intro y
        rcases y with y | y
        · exact z (Or.inl ((nI_eq (b := 1) (by omega) (by omega)).mp y))
        · exact z (Or.inr ((nI_eq (b := 2) (by omega) (by omega)).mp y))
      rw [if_neg (fun y => f1 y.1), if_neg (fun y => f1 y.1)]
theorem sCd_code {h kd w x : Nat} {a1 a2 a3 : Int32} (ek : a1 = nI kd) (ew : a2 + 1 = nI w) (ex : a3 = nI x) : sCode h a1 a2 a3 = nI (sCd h kd w x) := zCode ek ew ex
/-- an entry of no valve and no tag -/
theorem sLG_note {N : Nat → Nat} {T : Nat → Nat → Int32} {a1 a2 a3 : Int32} {kd w x : Nat} (h : sLG N T) (h0 : N 0 ≤ 2000) (b1 : kd ≤ 6) (b2 : w ≤ 9) (b3 : x < 100) (hk : 2 < kd) (ek : a1 = nI kd) (ew : a2 + 1 = nI w) (ex : a3 = nI x) : sLG (sNote N T a1 a2 a3).1 (sNote N T a1 a2 a3).2 := by
  refine sLG_new (h0 := N 0) (kd := kd) (w := w) (x := x) h h0 b1 b2 b3 (by omega) rfl (Nat.le_refl _) ?_ (fun v hv => ?_) (fun _ _ _ _ => rfl) (fun v hv => ?_)
  · show upd (T 0) (N 1) (sCode (N 0) a1 a2 a3) = _
    rw [sCd_code ek ew ex]
  · show T 3 v = _
    rw [if_neg (by omega), h.2.1 v hv]
  · rw [if_neg (by omega), Int32.add_zero]
    rfl
theorem sLG_turn {N : Nat → Nat} {T : Nat → Nat → Int32} {who v : Int32} {o : Bool} {w : Nat} (h : sLG N T) (h0 : N 0 ≤ 2000) (hv : vp_in v 8) (b2 : w ≤ 9) (ew : who + 1 = nI w) : sLG (sTurn N T who v o).1 (sTurn N T who v o).2 := by
  by_cases c : T 3 v.toNatClampNeg = zb o
  · rw [sTurn_e c]
    exact h
  · rw [sTurn_d c]
    obtain ⟨j, hj, rfl⟩ := vp_in_of hv (by omega)
    rw [nI_clamp (by omega)] at c ⊢
    have ex : (nI j + if o = true then (10 : Int32) else 0) = nI (j + if o = true then 10 else 0) := by
      cases o
      · show nI j + 0 = nI j
        exact Int32.add_zero _
      · show nI j + 10 = nI (j + 10)
        rw [show (10 : Int32) = nI 10 from rfl, nI_add]
    refine sLG_new (h0 := N 0) (kd := 0) (w := w) (x := j + if o = true then 10 else 0) h h0 (by omega) b2 (by split <;> omega) (by omega) rfl (Nat.le_refl _) ?_ (fun v hv => ?_) (fun _ _ _ _ => rfl) (fun v hv => ?_)
    · show upd (T 0) (N 1) (sCode (N 0) 0 who (nI j + if o = true then 10 else 0)) = _
      exact congrArg (upd (T 0) (N 1)) (sCd_code (kd := 0) rfl ew ex)
    · show upd (T 3) j (zb o) v = _
      by_cases e : v = j
      · subst e
        rw [upd_at]
        cases o
        · rw [if_pos ⟨rfl, by show v % 10 = v; omega⟩]
          show (0 : Int32) = zb (decide (10 ≤ v + 0))
          rw [decide_eq_false (by omega)]
          rfl
        · rw [if_pos ⟨rfl, by show (v + 10) % 10 = v; omega⟩]
          show (1 : Int32) = zb (decide (10 ≤ v + 10))
          rw [decide_eq_true (by omega)]
          rfl
      · rw [upd_no e, if_neg (fun z => e (by have := z.2; cases o <;> simp at this <;> omega)), h.2.1 v hv]
    · rw [if_neg (by omega), Int32.add_zero]
      rfl
theorem sCnt_one {f f2 : Nat → Bool} {i : Nat} (h : ∀ k, k ≠ i → f2 k = f k) : ∀ {n : Nat}, i < n → sCnt f2 n + (if f i = true then 1 else 0) = sCnt f n + (if f2 i = true then 1 else 0)
  | 0, hi => absurd hi (Nat.not_lt_zero _)
  | n + 1, hi => by
    rw [sCnt, sCnt]
    by_cases c : i = n
    · subst c
      rw [sCnt_congr (f := f2) (g := f) (fun k hk => h k (by omega))]
      omega
    · have := sCnt_one h (n := n) (by omega)
      rw [h n (fun z => c z.symm)]
      omega
theorem sIx_nI {x n : Nat} (hx : x < 2 ^ 31) : sIx (nI x) n = decide (x < n) := by
  rw [sIx, nI_toInt hx]
  exact decide_eq_decide.mpr ⟨fun z => by omega, fun z => ⟨by omega, by omega⟩⟩
theorem sLG_hang {N : Nat → Nat} {T : Nat → Nat → Int32} {p v : Int32} (h : sLG N T) (h0 : N 0 ≤ 2000) (hp : vp_in p 9) (hv : vp_in v 8) (h2 : N 2 < 40) : sLG (nHang N T p v).1 (nHang N T p v).2 := by
  obtain ⟨w, hw, ew⟩ := zW hp
  have e8 : (nHang N T p v).2 8 = upd (T 8) (N 2) v := rfl
  have e10 : (nHang N T p v).2 10 = upd (T 10) (N 2) 0 := rfl
  have e2 : (nHang N T p v).1 2 = N 2 + 1 := rfl
  refine sLG_new (h0 := N 0) (kd := 1) (w := w) (x := N 2) h h0 (by omega) hw (by omega) (fun _ => by rw [e2]; omega) rfl (by rw [e2]; omega) ?_ (fun u hu => ?_) (fun u y hu hy => ?_) (fun u hu => ?_)
  · show upd (T 0) (N 1) (sCode (N 0) 1 p (nI (N 2))) = _
    exact congrArg (upd (T 0) (N 1)) (sCd_code (kd := 1) rfl ew rfl)
  · show T 3 u = _
    rw [if_neg (by omega), h.2.1 u hu]
  · rw [sWas, sWas, e2, e8, sIx_nI (by omega), sIx_nI (by omega), nI_clamp (by omega), upd_no (by omega), decide_eq_true (show y < N 2 + 1 by omega), decide_eq_true hy]
  · have e3 : sWas (nHang N T p v).1 (nHang N T p v).2 (nI (N 2)) (nI u) = decide (v = nI u) := by
      rw [sWas, e2, e8, sIx_nI (by omega), nI_clamp (by omega), upd_at, decide_eq_true (show N 2 < N 2 + 1 by omega), Bool.true_and]
    have e4 : sOn (nHang N T p v).1 (nHang N T p v).2 (nI u) = sOn N T (nI u) + if v = nI u then 1 else 0 := by
      rw [sOn, e2, e8, e10, sCnt, upd_at, upd_at, sOn]
      congr 1
      · exact sCnt_congr (fun k hk => by rw [upd_no (by omega), upd_no (by omega)])
      · simp
    rw [e3, e4]
    by_cases c : v = nI u
    · rw [if_pos ⟨Or.inl rfl, decide_eq_true c⟩, if_pos rfl, if_pos c, nI_1]
    · rw [if_neg (fun z => c (of_decide_eq_true z.2)), if_neg c, Int32.add_zero, Nat.add_zero]
theorem sLG_take {N : Nat → Nat} {T : Nat → Nat → Int32} {p t : Int32} (h : sLG N T) (h0 : N 0 ≤ 2000) (hp : vp_in p 9) (ht : vp_in t (N 2)) (h2 : N 2 ≤ 40) (hoff : T 10 t.toNatClampNeg = 0) : sLG (nTake N T p t).1 (nTake N T p t).2 := by
  by_cases hc : sComes T p t.toNatClampNeg = true
  · rw [show nTake N T p t = sNote N (va_up T 10 (upd (T 10) t.toNatClampNeg 1)) 2 p t from if_pos hc]
    obtain ⟨w, hw, ew⟩ := zW hp
    obtain ⟨j, hj, rfl⟩ := vp_in_of ht (by omega)
    rw [nI_clamp (by omega)] at hoff ⊢
    refine sLG_new (h0 := N 0) (kd := 2) (w := w) (x := j) h h0 (by omega) hw (by omega) (fun _ => hj) rfl (Nat.le_refl _) ?_ (fun u hu => ?_) (fun u y hu hy => rfl) (fun u hu => ?_)
    · show upd (T 0) (N 1) (sCode (N 0) 2 p (nI j)) = _
      exact congrArg (upd (T 0) (N 1)) (sCd_code (kd := 2) rfl ew rfl)
    · show T 3 u = _
      rw [if_neg (by omega), h.2.1 u hu]
    · have e3 : sWas (sNote N (va_up T 10 (upd (T 10) j 1)) 2 p (nI j)).1 (sNote N (va_up T 10 (upd (T 10) j 1)) 2 p (nI j)).2 (nI j) (nI u) = decide (T 8 j = nI u) := by
        show (sIx (nI j) (N 2) && decide (T 8 (nI j).toNatClampNeg = nI u)) = _
        rw [sIx_nI (by omega), nI_clamp (by omega), decide_eq_true hj, Bool.true_and]
      have e4 := sCnt_one (f := fun t => decide (T 10 t = 0) && decide (T 8 t = nI u)) (f2 := fun t => decide (upd (T 10) j 1 t = 0) && decide (T 8 t = nI u)) (i := j) (fun k hk => by show (decide (upd (T 10) j 1 k = 0) && _) = _; rw [upd_no hk]) hj
      have e5 : sOn (sNote N (va_up T 10 (upd (T 10) j 1)) 2 p (nI j)).1 (sNote N (va_up T 10 (upd (T 10) j 1)) 2 p (nI j)).2 (nI u) = sCnt (fun t => decide (upd (T 10) j 1 t = 0) && decide (T 8 t = nI u)) (N 2) := rfl
      have e6 : sOn N T (nI u) = sCnt (fun t => decide (T 10 t = 0) && decide (T 8 t = nI u)) (N 2) := rfl
      rw [e3, e5, e6]
      have e7 : (decide (upd (T 10) j 1 j = 0) && decide (T 8 j = nI u)) = false := by rw [upd_at]; rfl
      simp only [hoff] at e4
      rw [upd_at] at e4
      by_cases c : T 8 j = nI u
      · rw [if_pos ⟨Or.inr rfl, decide_eq_true c⟩, if_neg (by omega)]
        have e8 : sCnt (fun t => decide (upd (T 10) j 1 t = 0) && decide (T 8 t = nI u)) (N 2) + 1 = sCnt (fun t => decide (T 10 t = 0) && decide (T 8 t = nI u)) (N 2) := by simpa [c] using e4
        rw [← e8]
        exact pk_m1 _
      · rw [if_neg (fun z => c (of_decide_eq_true z.2)), Int32.add_zero]
        have e8 : sCnt (fun t => decide (upd (T 10) j 1 t = 0) && decide (T 8 t = nI u)) (N 2) = sCnt (fun t => decide (T 10 t = 0) && decide (T 8 t = nI u)) (N 2) := by simpa [c] using e4
        rw [e8]
  · rw [show nTake N T p t = (N, va_up T 9 (upd (T 9) t.toNatClampNeg p)) from if_neg hc]
    exact sLG_eq h rfl rfl rfl rfl rfl rfl
