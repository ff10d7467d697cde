/-! the law's own arrays (e; p l a v q r m t g), and what they say of (N, T) -/
theorem nz_or (a b : Nat) : nI a ||| nI b = nI (a ||| b) := by
  apply Int32.toBitVec_inj.1
  show BitVec.ofNat 32 a ||| BitVec.ofNat 32 b = BitVec.ofNat 32 (a ||| b)
  apply BitVec.eq_of_getLsbD_eq
  intro i hi
  simp [hi]
theorem nz_ors {a k : Nat} (b : Nat) (h : a < 2 ^ k) : nI (2 ^ k * b) ||| nI a = nI (2 ^ k * b + a) := by rw [nz_or, Nat.two_pow_add_eq_or_of_lt h]
theorem nz_cl {j n : Nat} (h : j < n) (hn : n < 2 ^ 31) : (nI j).toNatClampNeg = j := nI_clamp (by omega)
abbrev LW (G : zG) (u : Nat → Nat) (E : Nat → Int64) (F : Nat → Nat → Int32) : va_W :=
  [(u 0, .inl (G.2 1, 64, .inr (.inl E))), (u 1, .inl (G.2 0, 8, .inl (F 1))), (u 2, .inl (G.2 0, 3, .inl (F 2))), (u 3, .inl (G.2 0, 3, .inl (F 3))), (u 4, .inl (G.2 0, 40, .inl (F 4))), (u 5, .inl (G.2 0, 40, .inl (F 5))), (u 6, .inl (G.2 0, 9, .inl (F 6))), (u 7, .inl (G.2 0, 12, .inl (F 7))), (u 8, .inl (G.2 0, 12, .inl (F 8))), (u 9, .inl (G.2 0, 10, .inl (F 9)))]
/-- what the law reads off an entry -/
def zK2 (c : Int32) : Int32 := c / 1000 - c / 1000 / 10 * 10
def zWo (c : Int32) : Int32 := c / 100 - c / 100 / 10 * 10 - 1
def zT2 (c : Int32) : Int32 := c - c / 10 * 10
theorem zK2_c {h kd w x : Nat} (h0 : h ≤ 2000) (hk : kd ≤ 6) (hw : w ≤ 9) (hx : x < 100) : zK2 (nI (sCd h kd w x)) = nI kd := by
  have hb : sCd h kd w x < 2 ^ 31 := by rw [sCd]; omega
  rw [zK2, show (1000 : Int32) = nI 1000 from rfl, show (10 : Int32) = nI 10 from rfl, pk_div hb (by omega) (by omega), pk_rem (by omega) (by omega) (by omega)]
  refine congrArg nI ?_
  rw [sCd]
  omega
theorem zWo_c {h kd w x : Nat} (h0 : h ≤ 2000) (hk : kd ≤ 6) (hw : w ≤ 9) (hx : x < 100) : zWo (nI (sCd h kd w x)) = nI w - 1 := by
  have hb : sCd h kd w x < 2 ^ 31 := by rw [sCd]; omega
  rw [zWo, show (100 : Int32) = nI 100 from rfl, show (10 : Int32) = nI 10 from rfl, pk_div hb (by omega) (by omega), pk_rem (by omega) (by omega) (by omega)]
  refine congrArg (fun z => nI z - 1) ?_
  rw [sCd]
  omega
theorem zT2_c {h kd w x : Nat} (h0 : h ≤ 2000) (hk : kd ≤ 6) (hw : w ≤ 9) (hx : x < 100) : zT2 (nI (sCd h kd w x)) = nI (x % 10) := by
  have hb : sCd h kd w x < 2 ^ 31 := by rw [sCd]; omega
  rw [zT2, show (10 : Int32) = nI 10 from rfl, pk_rem hb (by omega) (by omega)]
  refine congrArg nI ?_
  rw [sCd]
  omega
def sCds (c : Nat → Int32) (n : Nat) : Prop := ∀ k, k < n → ∃ h kd w x : Nat, h ≤ 2000 ∧ kd ≤ 6 ∧ w ≤ 9 ∧ x < 100 ∧ c k = nI (sCd h kd w x)
theorem sLG.cds {N : Nat → Nat} {T : Nat → Nat → Int32} (h : sLG N T) : sCds (T 0) (N 1) := fun k hk => by
  obtain ⟨a, b, c, d, e1, e2, e3, e4, e5, -⟩ := h.1 k hk
  exact ⟨a, b, c, d, e1, e2, e3, e4, e5⟩
def sOp2 (c : Nat → Int32) (v : Int32) : Nat → Bool
  | 0 => false
  | n + 1 => if zK2 (c n) = 0 ∧ zT2 (c n) = v then decide (9 < zWh (c n)) else sOp2 c v n
def sLf (c : Nat → Int32) (p : Int32) (n : Nat) : Bool := sAny (fun k => decide (zK2 (c k) = 4) && decide (zWo (c k) = p)) n
def sHr (c : Nat → Int32) (t : Int32) : Nat → Int32
  | 0 => -1
  | n + 1 => if zWh (c n) = t ∧ (zK2 (c n) = 1 ∨ zK2 (c n) = 2) then (if zK2 (c n) = 1 then zWo (c n) else -1) else sHr c t n
def sTk (c : Nat → Int32) (t : Int32) : Nat → Int32
  | 0 => -1
  | n + 1 => if 4 < zK2 (c n) ∧ zWh (c n) = t then (if zK2 (c n) = 5 then zWo (c n) else -1) else sTk c t n
theorem sOp2_L {c : Nat → Int32} {v : Int32} : ∀ {n : Nat}, sCds c n → sOp2 c v n = sOpL c v n
  | 0, _ => rfl
  | n + 1, hc => by
    obtain ⟨h, kd, w, x, h0, hk, hw, hx, e⟩ := hc n (Nat.lt_succ_self n)
    have h9 : (9 < nI x) = (10 ≤ x) := by
      rw [show (9 : Int32) = nI 9 from rfl, eq_iff_iff, nI_ltI (by omega) (by omega)]
      omega
    rw [sOp2, sOpL, e, zK2_c h0 hk hw hx, zKd_c h0 hk hw hx, zT2_c h0 hk hw hx, zVa_c h0 hk hw hx, zOp_c h0 hk hw hx, zWh_c h0 hk hw hx, sOp2_L (n := n) (fun k hk => hc k (by omega))]
    simp only [h9]
theorem sLf_cg {c c2 : Nat → Int32} {p : Int32} {n : Nat} (h : ∀ k, k < n → c k = c2 k) : sLf c p n = sLf c2 p n := sAny_congr (fun k hk => by rw [h k hk])
theorem sHr_cg {c c2 : Nat → Int32} {t : Int32} : ∀ {n : Nat}, (∀ k, k < n → c k = c2 k) → sHr c t n = sHr c2 t n
  | 0, _ => rfl
  | n + 1, h => by rw [sHr, sHr, h n (by omega), sHr_cg (n := n) (fun k hk => h k (by omega))]
theorem sTk_cg {c c2 : Nat → Int32} {t : Int32} : ∀ {n : Nat}, (∀ k, k < n → c k = c2 k) → sTk c t n = sTk c2 t n
  | 0, _ => rfl
  | n + 1, h => by rw [sTk, sTk, h n (by omega), sTk_cg (n := n) (fun k hk => h k (by omega))]
theorem nz_eq {a b : Nat} (ha : a < 2 ^ 31) (hb : b < 2 ^ 31) : (nI a = nI b) = (a = b) := propext (nI_eq ha hb)
/-- what a new entry tells -/
theorem sLf_new {c : Nat → Int32} {p : Int32} {n h kd w x : Nat} (h0 : h ≤ 2000) (hk : kd ≤ 6) (hw : w ≤ 9) (hx : x < 100) : sLf (upd c n (nI (sCd h kd w x))) p (n + 1) = (sLf c p n || (decide (kd = 4) && decide (nI w - 1 = p))) := by
  have e : sLf (upd c n (nI (sCd h kd w x))) p n = sLf c p n := sLf_cg (fun k hk => upd_no (by omega))
  have e4 : (nI kd = 4) = (kd = 4) := nz_eq (b := 4) (by omega) (by omega)
  show (sLf (upd c n (nI (sCd h kd w x))) p n || (decide (zK2 (upd c n (nI (sCd h kd w x)) n) = 4) && decide (zWo (upd c n (nI (sCd h kd w x)) n) = p))) = _
  rw [e, upd_at, zK2_c h0 hk hw hx, zWo_c h0 hk hw hx]
  simp only [e4]
theorem sHr_new {c : Nat → Int32} {n h kd w x t : Nat} (h0 : h ≤ 2000) (hk : kd ≤ 6) (hw : w ≤ 9) (hx : x < 100) (ht : t < 2 ^ 31) : sHr (upd c n (nI (sCd h kd w x))) (nI t) (n + 1) = if x = t ∧ (kd = 1 ∨ kd = 2) then (if kd = 1 then nI w - 1 else -1) else sHr c (nI t) n := by
  have e1 : (nI kd = 1) = (kd = 1) := nz_eq (b := 1) (by omega) (by omega)
  have e2 : (nI kd = 2) = (kd = 2) := nz_eq (b := 2) (by omega) (by omega)
  rw [sHr, upd_at, zK2_c h0 hk hw hx, zWo_c h0 hk hw hx, zWh_c h0 hk hw hx, sHr_cg (c2 := c) (fun k hk => upd_no (by omega))]
  simp only [nz_eq (show x < 2 ^ 31 by omega) ht, e1, e2]
theorem sTk_new {c : Nat → Int32} {n h kd w x t : Nat} (h0 : h ≤ 2000) (hk : kd ≤ 6) (hw : w ≤ 9) (hx : x < 100) (ht : t < 2 ^ 31) : sTk (upd c n (nI (sCd h kd w x))) (nI t) (n + 1) = if 4 < kd ∧ x = t then (if kd = 5 then nI w - 1 else -1) else sTk c (nI t) n := by
  have e1 : (4 < nI kd) = (4 < kd) := propext (nI_ltI (a := 4) (by omega) (by omega))
  have e2 : (nI kd = 5) = (kd = 5) := nz_eq (b := 5) (by omega) (by omega)
  rw [sTk, upd_at, zK2_c h0 hk hw hx, zWo_c h0 hk hw hx, zWh_c h0 hk hw hx, sTk_cg (c2 := c) (fun k hk => upd_no (by omega))]
  simp only [nz_eq (show x < 2 ^ 31 by omega) ht, e1, e2]
/-- the log tells who has left, whose the tags are that hang, whose task a thread is -/
def sLH (N : Nat → Nat) (T : Nat → Nat → Int32) : Prop :=
  (∀ p, p < 9 → T 2 p = zb (sLf (T 0) (nI p) (N 1))) ∧ (∀ t, t < N 2 → sHr (T 0) (nI t) (N 1) = if T 10 t = 0 then T 7 t else -1) ∧ ∀ t, t < 100 → sTk (T 0) (nI t) (N 1) = T 18 t
theorem sLH_eq {N N2 : Nat → Nat} {T T2 : Nat → Nat → Int32} (h : sLH N T) (h1 : N2 1 = N 1) (h2 : N2 2 = N 2) (t0 : T2 0 = T 0) (t2 : T2 2 = T 2) (t7 : T2 7 = T 7) (t10 : T2 10 = T 10) (t18 : T2 18 = T 18) : sLH N2 T2 := by
  unfold sLH at h ⊢
  rw [h1, h2, t0, t2, t7, t10, t18]
  exact h
theorem sLH_new {N N2 : Nat → Nat} {T T2 : Nat → Nat → Int32} {h0 kd w x : Nat} (h : sLH N T) (b0 : h0 ≤ 2000) (b1 : kd ≤ 6) (b2 : w ≤ 9) (b3 : x < 100) (hN2 : N2 2 ≤ 40) (n1 : N2 1 = N 1 + 1) (t0 : T2 0 = upd (T 0) (N 1) (nI (sCd h0 kd w x)))
    (h2 : ∀ p, p < 9 → T2 2 p = zb (sLf (T 0) (nI p) (N 1) || (decide (kd = 4) && decide (nI w - 1 = nI p))))
    (h7 : ∀ t, t < N2 2 → (if x = t ∧ (kd = 1 ∨ kd = 2) then (if kd = 1 then nI w - 1 else -1) else sHr (T 0) (nI t) (N 1)) = if T2 10 t = 0 then T2 7 t else -1)
    (h18 : ∀ t, t < 100 → (if 4 < kd ∧ x = t then (if kd = 5 then nI w - 1 else -1) else T 18 t) = T2 18 t) : sLH N2 T2 := by
  refine ⟨fun p hp => ?_, fun t ht => ?_, fun t ht => ?_⟩
  · rw [h2 p hp, n1, t0, sLf_new b0 b1 b2 b3]
  · rw [n1, t0, sHr_new b0 b1 b2 b3 (by omega), h7 t ht]
  · rw [n1, t0, sTk_new b0 b1 b2 b3 (by omega), h.2.2 t ht, h18 t ht]
/-- an entry of a kind that tells none of it -/
theorem sLH_note {N N2 : Nat → Nat} {T T2 : Nat → Nat → Int32} {h0 kd w x : Nat} (h : sLH N T) (b0 : h0 ≤ 2000) (b2 : w ≤ 9) (b3 : x < 100) (hk : kd = 0 ∨ kd = 3) (hN2 : N 2 ≤ 40) (n1 : N2 1 = N 1 + 1) (n2 : N2 2 = N 2) (t0 : T2 0 = upd (T 0) (N 1) (nI (sCd h0 kd w x))) (t2 : T2 2 = T 2) (t7 : T2 7 = T 7) (t10 : T2 10 = T 10) (t18 : T2 18 = T 18) : sLH N2 T2 := by
  refine sLH_new (kd := kd) h b0 (by omega) b2 b3 (by rw [n2]; exact hN2) n1 t0 (fun p hp => ?_) (fun t ht => ?_) (fun t ht => ?_)
  · rw [t2, h.1 p hp, decide_eq_false (show ¬ kd = 4 by omega), Bool.false_and, Bool.or_false]
  · rw [if_neg (by omega), t7, t10, h.2.1 t (by rw [← n2]; exact ht)]
  · rw [if_neg (by omega), t18]
/-- a text in the law's eight letters -/
def zLt (k : Nat) : Int32 := if k = 0 then 64 else if k = 1 then 48 else if k = 2 then 56 else if k = 3 then 57 else if k = 4 then 97 else if k = 5 then 55357 else if k = 6 then 56832 else 49
def sTx (D : Nat → Nat) (t : Nat → Int32) (n : Nat) : Prop := (∀ k, D k < 8) ∧ ∀ k, k < n → t k = zLt (D k)
def sP8 (D : Nat → Nat) : Nat → Nat
  | 0 => 0
  | n + 1 => sP8 D n + D n * 8 ^ n
/-- an alarm as the law keeps it -/
def sPa (T : Nat → Nat → Int32) (a : Nat) : Int32 := T 11 a + (if T 13 a = 0 then 0 else 4) + 8 * T 14 a + (if T 15 a = 0 then 0 else 64) + 128 * T 12 a + 262144 * T 16 a
def sR1 (T F : Nat → Nat → Int32) : Prop := ∀ v, v < 8 → F 1 v = T 4 v + 1 + 4 * (T 5 v + 1)
def sR2 (T F : Nat → Nat → Int32) : Prop := ∀ i, i < 3 → F 2 i = T 6 i
def sR3 (N : Nat → Nat) (T F : Nat → Nat → Int32) : Prop := ∀ a, a < N 3 → F 3 a = sPa T a
def sR4 (N : Nat → Nat) (T F : Nat → Nat → Int32) : Prop := ∀ t, t < N 2 → F 4 t = T 8 t
def sR5 (N : Nat → Nat) (T F : Nat → Nat → Int32) : Prop := (∀ t, N 2 ≤ t → F 5 t = 0) ∧ ∀ t, t < N 2 → T 10 t = 0 → F 5 t = if T 9 t = -1 then 0 else (1 : Int32) <<< (T 9 t &&& 31)
def sR6 (T F : Nat → Nat → Int32) : Prop := ∀ p, p < 9 → F 6 p = T 1 p
def sR7 (N : Nat → Nat) (T F : Nat → Nat → Int32) : Prop := ∀ m, m < N 5 → ∃ D : Nat → Nat, sTx D (T (20 + m)) (N (20 + m)) ∧ N (20 + m) ≤ 9 ∧ F 7 m = nI (N (20 + m) + 16 * sP8 D (N (20 + m)))
def sRt (N : Nat → Nat) (T F : Nat → Nat → Int32) : Prop := ∃ D : Nat → Nat, sTx D (T 17) (N 4) ∧ F 9 9 = nI (sP8 D (N 4))
def sR9 (N : Nat → Nat) (T F : Nat → Nat → Int32) : Prop := F 9 0 = nI (N 0) ∧ F 9 1 = nI (N 1) ∧ F 9 2 = T 19 0 ∧ F 9 3 = T 19 1 ∧ F 9 4 = nI (N 3) ∧ F 9 5 = nI (N 2) ∧ F 9 6 = nI (N 5) ∧ F 9 7 = nI (N 6) ∧ F 9 8 = nI (N 4)
/-- the law's arrays are those of (N, T) -/
def sLR (N : Nat → Nat) (T : Nat → Nat → Int32) (E : Nat → Int64) (F : Nat → Nat → Int32) : Prop :=
  sRE E (T 0) (N 1) ∧ sR1 T F ∧ sR2 T F ∧ sR3 N T F ∧ sR4 N T F ∧ sR5 N T F ∧ sR6 T F ∧ sR7 N T F ∧ sRt N T F ∧ sR9 N T F
/-- what holds at the law's head, beside sGo -/
def sL2 (N : Nat → Nat) (T : Nat → Nat → Int32) : Prop :=
  (N 1 ≤ 120 ∧ N 0 ≤ 1909 ∧ N 3 ≤ 3 ∧ N 4 ≤ 9 ∧ N 5 ≤ 12) ∧ (∀ i, i < 3 → ∃ x : Nat, x ≤ 1000 ∧ T 6 i = nI x) ∧ (∀ a, a < N 3 → ∃ x : Nat, x ≤ 1000 ∧ T 12 a = nI x) ∧ sLH N T
def sLJ (N : Nat → Nat) (T : Nat → Nat → Int32) (K : Nat) : Prop := sGo N T K ∧ sL2 N T
/-- what the readers of the law's log want -/
def sLQ (N : Nat → Nat) (T : Nat → Nat → Int32) (E : Nat → Int64) (F : Nat → Nat → Int32) : Prop :=
  sRE E (T 0) (N 1) ∧ (N 1 ≤ 127 ∧ N 2 ≤ 40 ∧ N 0 ≤ 2000 ∧ N 6 ≤ 60) ∧ (F 9 0 = nI (N 0) ∧ F 9 1 = nI (N 1) ∧ F 9 2 = T 19 0 ∧ F 9 5 = nI (N 2)) ∧ sR4 N T F ∧ sR6 T F ∧ sLG N T ∧ sLH N T ∧ (∀ t, t < N 2 → vp_in (T 7 t) 9 ∧ vp_in (T 8 t) 8) ∧ ∀ i, T 2 i = 0 ∨ T 2 i = 1
theorem sLR.q {N : Nat → Nat} {T : Nat → Nat → Int32} {E : Nat → Int64} {F : Nat → Nat → Int32} {K : Nat} (h : sLR N T E F) (hJ : sLJ N T K) : sLQ N T E F := by
  obtain ⟨r0, r1, r2, r3, r4, r5, r6, r7, rt, r9⟩ := h
  obtain ⟨⟨⟨⟨h0, h2, h3, h4, h5, h6, h1⟩, hB, -, hT, -⟩, hG⟩, ⟨g1, -⟩, -, -, hH⟩ := hJ
  exact ⟨r0, ⟨by omega, h2, h0, by omega⟩, ⟨r9.1, r9.2.1, r9.2.2.1, r9.2.2.2.2.2.1⟩, r4, r6, hG, hH, fun t ht => ⟨(hT t ht).1, (hT t ht).2.1⟩, fun i => (hB i).1⟩
/-- whose a tag is that hangs -/
def sHo (T : Nat → Nat → Int32) (t : Int32) : Int32 := if T 10 t.toNatClampNeg = 0 then T 7 t.toNatClampNeg else -1
theorem sLQ.op {N : Nat → Nat} {T : Nat → Nat → Int32} {E : Nat → Int64} {F : Nat → Nat → Int32} (h : sLQ N T E F) {v : Int32} (hv : vp_in v 8) : zb (sOp2 (T 0) v (N 1)) = T 3 v.toNatClampNeg := by
  obtain ⟨c1, c2⟩ := zCl hv (by omega)
  have hG := h.2.2.2.2.2.1
  rw [hG.2.1 _ c1, ← c2, sOp2_L hG.cds]
theorem sLQ.lf {N : Nat → Nat} {T : Nat → Nat → Int32} {E : Nat → Int64} {F : Nat → Nat → Int32} (h : sLQ N T E F) {v : Int32} (hv : vp_in v 9) : zb (sLf (T 0) v (N 1)) = T 2 v.toNatClampNeg := by
  obtain ⟨c1, c2⟩ := zCl hv (by omega)
  rw [h.2.2.2.2.2.2.1.1 _ c1, ← c2]
theorem sLQ.hr {N : Nat → Nat} {T : Nat → Nat → Int32} {E : Nat → Int64} {F : Nat → Nat → Int32} (h : sLQ N T E F) {v : Int32} (hv : vp_in v (N 2)) : sHr (T 0) v (N 1) = sHo T v := by
  obtain ⟨c1, c2⟩ := zCl hv (by have := h.2.1; omega)
  have := h.2.2.2.2.2.2.1.2.1 _ c1
  rw [← c2] at this
  rw [this]
  rfl
theorem sLQ.tk {N : Nat → Nat} {T : Nat → Nat → Int32} {E : Nat → Int64} {F : Nat → Nat → Int32} (h : sLQ N T E F) {v : Int32} (hv : vp_in v 100) : sTk (T 0) v (N 1) = T 18 v.toNatClampNeg := by
  obtain ⟨c1, c2⟩ := zCl hv (by omega)
  have := h.2.2.2.2.2.2.1.2.2 _ c1
  rw [← c2] at this
  exact this
/-- whether a tag hangs, by its owner -/
theorem sHo_lt {N : Nat → Nat} {T : Nat → Nat → Int32} {t : Int32} (hT : ∀ t, t < N 2 → vp_in (T 7 t) 9 ∧ vp_in (T 8 t) 8) (ht : t.toNatClampNeg < N 2) : sHo T t < 0 ↔ ¬ T 10 t.toNatClampNeg = 0 := by
  rw [sHo]
  by_cases c : T 10 t.toNatClampNeg = 0
  · rw [if_pos c]
    exact ⟨fun h => absurd h (zNn_in (hT _ ht).1), fun h => absurd c h⟩
  · rw [if_neg c]
    exact ⟨fun _ => c, fun _ => by decide⟩
theorem sHo_on {T : Nat → Nat → Int32} {t : Int32} (h : T 10 t.toNatClampNeg = 0) : sHo T t = T 7 t.toNatClampNeg := if_pos h
theorem sHo_off {T : Nat → Nat → Int32} {t : Int32} (h : ¬ T 10 t.toNatClampNeg = 0) : sHo T t = -1 := if_neg h
theorem sHo_n {N : Nat → Nat} {T : Nat → Nat → Int32} {i : Nat} (hT : ∀ t, t < N 2 → vp_in (T 7 t) 9 ∧ vp_in (T 8 t) 8) (hi : i < N 2) (h4 : N 2 ≤ 40) : (sHo T (nI i) < 0 ↔ ¬ T 10 i = 0) ∧ (T 10 i = 0 → sHo T (nI i) = T 7 i) := by
  have e : (nI i).toNatClampNeg = i := nI_clamp (by omega)
  have h1 := sHo_lt (t := nI i) hT (by rw [e]; exact hi)
  rw [e] at h1
  exact ⟨h1, fun h => by rw [sHo_on (by rw [e]; exact h), e]⟩
theorem sBar_9 {N : Nat → Nat} {T : Nat → Nat → Int32} {p : Int32} (hT : ∀ t, t < N 2 → vp_in (T 7 t) 9 ∧ vp_in (T 8 t) 8) : sBar N T p 9 = false := by
  cases h : sBar N T p 9 with
  | false => rfl
  | true =>
    obtain ⟨k, hk, h1⟩ := sAny_iff.mp h
    simp only [Bool.and_eq_true, decide_eq_true_eq] at h1
    have h2 := (hT k hk).2
    rw [h1.1.2, vp_in_iff] at h2
    exact absurd h2.2 (by decide)
theorem z_may {N : Nat → Nat} {T : Nat → Nat → Int32} {p : Int32} (_ : ∀ t, t < N 2 → vp_in (T 7 t) 9 ∧ vp_in (T 8 t) 8) (h : sBars N T p 9 = 0) : sMay N T p = true := by
  rw [sBars] at h
  split at h
  · exact absurd h (by decide)
  · split at h
    · exact absurd h (by decide)
    · rename_i h1
      cases c : sMay N T p with
      | false => exact absurd c h1
      | true => rfl
theorem z_mayn {N : Nat → Nat} {T : Nat → Nat → Int32} {p : Int32} (hT : ∀ t, t < N 2 → vp_in (T 7 t) 9 ∧ vp_in (T 8 t) 8) (h : ¬ sBars N T p 9 = 0) : sMay N T p = false := by
  cases c : sMay N T p with
  | false => rfl
  | true =>
    have d : sDuty N T p = true := by
      rw [sMay] at c
      cases e : sDuty N T p with
      | true => rfl
      | false => rw [e, Bool.false_and] at c; exact absurd c (by decide)
    exact absurd (by rw [sBars, if_neg (by rw [d]; decide), if_neg (by rw [c]; decide), if_neg (by rw [sBar_9 hT]; decide)]) h
theorem z_low {v : Int32} {n : Nat} (h0 : 0 < n) (hn : n < 2 ^ 31) : ∃ j : Nat, j < n ∧ ((v.toUInt32 >>> ((1 : Int32).toUInt32 &&& Int32.toUInt32 31)).toInt32) - ((v.toUInt32 >>> ((1 : Int32).toUInt32 &&& Int32.toUInt32 31)).toInt32) / (nI n) * (nI n) = nI j := by
  obtain ⟨y, hy, rfl⟩ : ∃ y : Nat, y < 2 ^ 32 ∧ v = nI y := by
    refine ⟨v.toBitVec.toNat, v.toBitVec.isLt, ?_⟩
    apply Int32.toBitVec_inj.1
    show v.toBitVec = BitVec.ofNat 32 v.toBitVec.toNat
    simp
  have h2 : y / 2 ^ 1 < 2 ^ 31 := by omega
  rw [pk_ushrN hy 1 1 (by decide), pk_rem h2 h0 hn]
  exact ⟨_, Nat.mod_lt _ h0, rfl⟩
set_option maxRecDepth 100000 in
theorem z_mod3 {p : Int32} {n : Nat} (hp : vp_in p 9) (hn : n ≤ 2000) : ((nI n / 8 - p) - (nI n / 8 - p) / 3 * 3 = 0) ↔ (p - p / 3 * 3 = nI n / 8 - nI n / 8 / 3 * 3) := by
  obtain ⟨j, hj, rfl⟩ := vp_in_of hp (by omega)
  rw [show (8 : Int32) = nI 8 from rfl, pk_div (by omega) (by omega) (by omega)]
  have h9 : n / 8 < 251 := by omega
  generalize n / 8 = h at h9
  have key := co_dec (N := 2259) (P := fun x => ((nI (x / 9) - nI (x % 9)) - (nI (x / 9) - nI (x % 9)) / 3 * 3 = 0) ↔ (nI (x % 9) - nI (x % 9) / 3 * 3 = nI (x / 9) - nI (x / 9) / 3 * 3)) (by decide +kernel) (i := 9 * h + j) (by omega)
  rw [show (9 * h + j) / 9 = h by omega, show (9 * h + j) % 9 = j by omega] at key
  exact key
