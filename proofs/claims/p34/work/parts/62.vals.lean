/-! what the law's moves on valves stand on -/
theorem sLJ.mono {N : Nat → Nat} {T : Nat → Nat → Int32} {K K2 : Nat} (h : sLJ N T K) (hk : K ≤ K2) : sLJ N T K2 := ⟨⟨h.1.1.mono hk, h.1.2⟩, h.2⟩
theorem sEnd_m1 {a : Nat} (h : a < 4) : sEnd (nI a - 1) = true := co_dec (N := 4) (P := fun a => sEnd (nI a - 1) = true) (by decide +kernel) h
theorem sBars_le0 {N : Nat → Nat} {T : Nat → Nat → Int32} {p v : Int32} (h : sBars N T p v ≤ 0) : sBars N T p v = 0 := by
  rw [sBars] at h ⊢
  split at h
  · exact absurd h (by decide)
  · split at h
    · exact absurd h (by decide)
    · split at h
      · exact absurd h (by decide)
      · rename_i h1 h2 h3
        rw [if_neg h1, if_neg h2, if_neg h3]
theorem sBars_gt0 {N : Nat → Nat} {T : Nat → Nat → Int32} {p v : Int32} (h : ¬ sBars N T p v ≤ 0) : ¬ sBars N T p v = 0 := fun z => h (by rw [z]; decide)
theorem nI_rem9 {j : Nat} (h : j < 9) : nI j + 1 - (nI j + 1) / 9 * 9 = nI ((j + 1) % 9) := by
  rw [nI_1, show (9 : Int32) = nI 9 from rfl, pk_rem (by omega) (by omega) (by omega)]
theorem sLQ.f1 {N : Nat → Nat} {T : Nat → Nat → Int32} {E : Nat → Int64} {F : Nat → Nat → Int32} (h : sLQ N T E F) (f : Nat → Int32) : sLQ N T E (va_up F 1 f) := by
  obtain ⟨a, b, ⟨q0, q1, q2, q5⟩, d, e, g⟩ := h
  exact ⟨a, b, ⟨q0, q1, q2, q5⟩, d, e, g⟩
/-- how many have asked -/
def zAsk (z : Int32) : Nat → Int32
  | 0 => 0
  | k + 1 => zAsk z k + ((z >>> (nI k &&& 31)) &&& 1)
theorem zAsk_2 {a p : Int32} (ha : a = -1 ∨ vp_in a 9) (hp : vp_in p 9) : (2 ≤ zAsk ((if a = -1 then 0 else (1 : Int32) <<< (a &&& 31)) ||| ((1 : Int32) <<< (p &&& 31))) 9) ↔ ¬ (a = -1 ∨ a = p) := by
  obtain ⟨j, hj, rfl⟩ := vp_in_of hp (by omega)
  obtain ⟨i, hi, rfl⟩ : ∃ i : Nat, i < 10 ∧ a = nI i - 1 := by
    rcases ha with h | h
    · exact ⟨0, by omega, h⟩
    · obtain ⟨i, hi, e⟩ := vp_in_of h (by omega)
      exact ⟨i + 1, by omega, by rw [nI_pred]; exact e⟩
  have key := co_dec (N := 90) (P := fun x => (2 ≤ zAsk ((if nI (x / 9) - 1 = -1 then 0 else (1 : Int32) <<< ((nI (x / 9) - 1) &&& 31)) ||| ((1 : Int32) <<< (nI (x % 9) &&& 31))) 9) ↔ ¬ (nI (x / 9) - 1 = -1 ∨ nI (x / 9) - 1 = nI (x % 9))) (by decide +kernel) (i := 9 * i + j) (by omega)
  rw [show (9 * i + j) / 9 = i by omega, show (9 * i + j) % 9 = j by omega] at key
  exact key
theorem z_or0 (x : Int32) : 0 ||| x = x := Int32.zero_or
theorem z_orS (x : Int32) : x ||| x = x := Int32.or_self
/-- the row of askers behind a first ask, or the same one's second -/
theorem zAsk_z {a p : Int32} (hp : ¬ p = -1) (h : a = -1 ∨ a = p) : ((if a = -1 then 0 else (1 : Int32) <<< (a &&& 31)) ||| ((1 : Int32) <<< (p &&& 31))) = if p = -1 then 0 else (1 : Int32) <<< (p &&& 31) := by
  rw [if_neg hp]
  rcases h with h | h
  · rw [if_pos h, z_or0]
  · rw [h, if_neg hp, z_orS]
theorem zNm1 {j : Nat} (h : j < 2 ^ 31) : ¬ nI j = -1 := fun z => by
  have := zNn h
  rw [z] at this
  exact this (by decide)
theorem nTake_y {N : Nat → Nat} {T : Nat → Nat → Int32} {p t : Int32} (h : sComes T p t.toNatClampNeg = true) : nTake N T p t = sNote N (va_up T 10 (upd (T 10) t.toNatClampNeg 1)) 2 p t := if_pos h
theorem nTake_n {N : Nat → Nat} {T : Nat → Nat → Int32} {p t : Int32} (h : sComes T p t.toNatClampNeg = false) : nTake N T p t = (N, va_up T 9 (upd (T 9) t.toNatClampNeg p)) := if_neg (by rw [h]; decide)
theorem nTake_1 {N : Nat → Nat} {T : Nat → Nat → Int32} {p t : Int32} : (nTake N T p t).1 1 ≤ N 1 + 1 := by
  unfold nTake
  split
  · exact Nat.le_refl _
  · exact Nat.le_succ _
/-- behind a taking off: what holds at the law's head -/
theorem sLJ_take {N : Nat → Nat} {T : Nat → Nat → Int32} {K : Nat} {p x : Int32} (h : sLJ N T K) (hb : N 1 ≤ 90) (hk : sK2 ((sIx p 9) && (sIx x (N 2))) (((decide (T 10 x.toNatClampNeg = 0)) && (sMay N T p)) && (decide (p = T 7 x.toNatClampNeg) || !decide (T 2 (T 7 x.toNatClampNeg).toNatClampNeg = 0))) = 0) : sLJ (nTake N T p x).1 (nTake N T p x).2 (K + 1) := by
  obtain ⟨i1, i2⟩ := sAndI (sK2_0 hk).1
  obtain ⟨w, hw, ew⟩ := s_who (sIx_in.mp i1)
  have h2 := h.1.1.1.2.1
  obtain ⟨c1, c2⟩ := zCl (sIx_in.mp i2) (by omega)
  have hH := h.2.2.2.2
  have hg := g_take h.1 hk
  refine ⟨hg, ?_⟩
  cases c : sComes T p x.toNatClampNeg with
  | false =>
    rw [nTake_n c]
    exact sL2_same h.2 h.2.1.1 rfl rfl h.2.1.2.2.2.1 h.2.1.2.2.2.2 rfl rfl (sLH_eq hH rfl rfl rfl rfl rfl rfl rfl)
  | true =>
    rw [nTake_y c]
    refine sL2_same h.2 (by show N 1 + 1 ≤ 120; omega) rfl rfl h.2.1.2.2.2.1 h.2.1.2.2.2.2 rfl rfl ?_
    refine sLH_new (h0 := N 0) (kd := 2) (w := w) (x := x.toNatClampNeg) hH h.1.1.1.1 (by omega) hw (by omega) h2 rfl (congrArg (upd (T 0) (N 1)) (sCd_code (h := N 0) (kd := 2) (w := w) (x := x.toNatClampNeg) (a1 := 2) (a2 := p) (a3 := x) rfl ew c2)) (fun q hq => ?_) (fun k hk2 => ?_) (fun k _ => ?_)
    · show T 2 q = _
      rw [hH.1 q hq, decide_eq_false (show ¬ (2 : Nat) = 4 by omega), Bool.false_and, Bool.or_false]
    · show _ = if upd (T 10) x.toNatClampNeg 1 k = 0 then T 7 k else -1
      by_cases d : k = x.toNatClampNeg
      · rw [if_pos ⟨d.symm, Or.inr rfl⟩, if_neg (by decide), d, upd_at, if_neg (by decide)]
      · rw [if_neg (fun z => d z.1.symm), upd_no d]; exact hH.2.1 k hk2
    · show _ = T 18 k
      rw [if_neg (by omega)]
