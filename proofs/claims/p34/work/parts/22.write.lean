/-! what a write does to the class's world -/
theorem z_app {w v : va_W} {k : Nat} {x : Nat × va_E} (h : w[k]? = some x) : (w ++ v)[k]? = some x := by
  rw [List.getElem?_append_left (List.getElem?_eq_some_iff.mp h).1]
  exact h
theorem z_last {w : va_W} {x : Nat × va_E} : (w ++ [x])[w.length]? = some x := by
  rw [List.getElem?_append_right (Nat.le_refl _), Nat.sub_self]
  rfl
theorem z_setl {w : va_W} {x y : Nat × va_E} : (w ++ [x]).set w.length y = w ++ [y] := by
  rw [List.set_append_right _ _ (Nat.le_refl _), Nat.sub_self]
  rfl
theorem cE_eq {G : zG} {A A2 : Nat → Nat} {N N2 : Nat → Nat} {T T2 : Nat → Nat → Int32} {g g2 : Nat → Nat → Int32} {i : Nat} (hi : cL N i) (h60 : N 2 ≤ 100 ∧ N 3 ≤ 100 ∧ N 5 ≤ 100)
    (hv : i < 8 → T2 3 i = T 3 i ∧ T2 4 i = T 4 i ∧ T2 5 i = T 5 i)
    (h8 : i = 8 → zcap (N2 1) = zcap (N 1) ∧ g2 8 = g 8)
    (h9 : i = 9 → N2 2 = N 2 ∧ cGa A2 100 (N 2) = cGa A 100 (N 2)) (h10 : i = 10 → N2 3 = N 3 ∧ cGa A2 200 (N 3) = cGa A 200 (N 3)) (h11 : i = 11 → N2 5 = N 5 ∧ cGa A2 300 (N 5) = cGa A 300 (N 5))
    (ht : ∀ j, i = 100 + j → j < N 2 → T2 7 j = T 7 j ∧ T2 8 j = T 8 j ∧ T2 9 j = T 9 j ∧ T2 10 j = T 10 j)
    (ha : ∀ j, i = 200 + j → j < N 3 → T2 11 j = T 11 j ∧ T2 12 j = T 12 j ∧ T2 13 j = T 13 j ∧ T2 14 j = T 14 j ∧ T2 15 j = T 15 j ∧ T2 16 j = T 16 j)
    (hm : ∀ j, i = 300 + j → j < N 5 → A2 (400 + j) = A (400 + j))
    (hs : ∀ j, i = 400 + j → j < N 5 → N2 (20 + j) = N (20 + j) ∧ T2 (20 + j) = T (20 + j)) : cE G A2 N2 T2 g2 i = cE G A N T g i := by
  rcases hi with h | h | h | h | h | h | h | h | h
  · obtain ⟨a, b, c⟩ := hv h
    rw [cE_val h, cE_val h, a, b, c]
  · subst h
    obtain ⟨a, b⟩ := h8 rfl
    rw [cE_log, cE_log, a, b]
  · obtain ⟨h, -⟩ := h
    subst h
    obtain ⟨a, b⟩ := h9 rfl
    show Sum.inl (G.2 5, lcap (N2 2), Sum.inr (Sum.inr (Sum.inr (Sum.inr (cGa A2 100 (N2 2)))))) = Sum.inl (G.2 5, lcap (N 2), Sum.inr (Sum.inr (Sum.inr (Sum.inr (cGa A 100 (N 2))))))
    rw [a, b]
  · obtain ⟨h, -⟩ := h
    subst h
    obtain ⟨a, b⟩ := h10 rfl
    show Sum.inl (G.2 5, lcap (N2 3), Sum.inr (Sum.inr (Sum.inr (Sum.inr (cGa A2 200 (N2 3)))))) = Sum.inl (G.2 5, lcap (N 3), Sum.inr (Sum.inr (Sum.inr (Sum.inr (cGa A 200 (N 3))))))
    rw [a, b]
  · obtain ⟨h, -⟩ := h
    subst h
    obtain ⟨a, b⟩ := h11 rfl
    show Sum.inl (G.2 5, lcap (N2 5), Sum.inr (Sum.inr (Sum.inr (Sum.inr (cGa A2 300 (N2 5)))))) = Sum.inl (G.2 5, lcap (N 5), Sum.inr (Sum.inr (Sum.inr (Sum.inr (cGa A 300 (N 5))))))
    rw [a, b]
  · obtain ⟨j, rfl⟩ : ∃ j, i = 100 + j := ⟨i - 100, by omega⟩
    obtain ⟨a, b, c, e⟩ := ht j rfl (by omega)
    rw [cE_tag (by omega), cE_tag (by omega), a, b, c, e]
  · obtain ⟨j, rfl⟩ : ∃ j, i = 200 + j := ⟨i - 200, by omega⟩
    obtain ⟨a, b, c, e, f, h⟩ := ha j rfl (by omega)
    rw [cE_alarm (by omega), cE_alarm (by omega), a, b, c, e, f, h]
  · obtain ⟨j, rfl⟩ : ∃ j, i = 300 + j := ⟨i - 300, by omega⟩
    rw [cE_msg (by omega), cE_msg (by omega), hm j rfl (by omega)]
  · obtain ⟨j, rfl⟩ : ∃ j, i = 400 + j := ⟨i - 400, by omega⟩
    obtain ⟨a, b⟩ := hs j rfl (by omega)
    rw [cE_say, cE_say, a, b]
theorem z12 {P : Nat → Prop} (h : P 0 ∧ P 1 ∧ P 2 ∧ P 3 ∧ P 4 ∧ P 5 ∧ P 6 ∧ P 7 ∧ P 8 ∧ P 9 ∧ P 10 ∧ P 11) {j : Nat} (hj : j < 12) : P j := by
  obtain ⟨h0, h1, h2, h3, h4, h5, h6, h7, h8, h9, h10, h11⟩ := h
  rcases (show j = 0 ∨ j = 1 ∨ j = 2 ∨ j = 3 ∨ j = 4 ∨ j = 5 ∨ j = 6 ∨ j = 7 ∨ j = 8 ∨ j = 9 ∨ j = 10 ∨ j = 11 by omega) with rfl | rfl | rfl | rfl | rfl | rfl | rfl | rfl | rfl | rfl | rfl | rfl <;> assumption
section ZSC
variable {G : zG} {d : Nat} {r A : Nat → Nat} {mc : Nat → Int32} {g : Nat → Nat → Int32} {N N2 : Nat → Nat} {T T2 : Nat → Nat → Int32} {w : va_W} {k t v a : Nat} {e0 e : va_E} {x : Int32} {f : Nat → Int32}
/-- the counts are small -/
def sSm (N : Nat → Nat) : Prop := N 2 ≤ 40 ∧ N 3 ≤ 10 ∧ N 4 ≤ 40 ∧ N 5 ≤ 60 ∧ N 6 ≤ 60 ∧ N 0 ≤ 2000
theorem sSm.h60 (h : sSm N) : N 2 ≤ 100 ∧ N 3 ≤ 100 ∧ N 5 ≤ 100 := ⟨by have := h.1; omega, by have := h.2.1; omega, by have := h.2.2.2.1; omega⟩
theorem sC_pool (hC : sCQ G d r A mc g N T w) {i0 : Nat} (hi0 : cL N i0) (hk : 12 ≤ k) (hw : w[k]? = some (A i0, e0)) (hX : ∀ j, j < 12 → cX G d r A mc N T2 j = cX G d r A mc N T j) (h0 : cE G A N T2 g i0 = e) (hE : ∀ i, cL N i → i ≠ i0 → cE G A N T2 g i = cE G A N T g i) (hg : T2 0 = T 0) : sCQ G d r A mc g N T2 (w.set k (A i0, e)) :=
  ⟨(hC.1.setP hi0 hk hw e).cg hX (fun _ h => h) (fun _ _ => rfl) (fun i hi => by
    by_cases c : i = i0
    · subst c; rw [va_up_self]; exact h0
    · rw [va_up_ne _ _ c]; exact hE i hi c), fun q hq => by rw [hg]; exact hC.2 q hq⟩
theorem sC_fix (hC : sCQ G d r A mc g N T w) {j : Nat} {y : Nat × va_E} (hj : j < 12) (hX : ∀ i, i < 12 → cX G d r A mc N2 T2 i = if i = j then y else cX G d r A mc N T i) (hL : ∀ i, cL N2 i → cL N i) (hE : ∀ i, cL N2 i → cE G A N2 T2 g i = cE G A N T g i) (hg : N2 1 = N 1 ∧ T2 0 = T 0) : sCQ G d r A mc g N2 T2 (w.set j y) :=
  ⟨(hC.1.setX hj y).cg hX hL (fun _ _ => rfl) hE, fun q hq => by rw [hg.2]; rw [hg.1] at hq; exact hC.2 q hq⟩
theorem upd_at {f : Nat → Int32} {i : Nat} {x : Int32} : upd f i x i = x := if_pos rfl
theorem upd_no {f : Nat → Int32} {i j : Nat} {x : Int32} (h : j ≠ i) : upd f i x j = f j := if_neg h
theorem sC_v3 (hC : sCQ G d r A mc g N T w) (hN : sSm N) (hv : v < 8) (hk : 12 ≤ k) (hw : w[k]? = some (A v, e0)) : sCQ G d r A mc g N (va_up T 3 (upd (T 3) v x)) (w.set k (A v, .inr (6, [.int x, .int (T 4 v), .int (T 5 v)]))) :=
  sC_pool hC (Or.inl hv) hk hw (fun j hj => z12 (P := fun j => cX G d r A mc N (va_up T 3 (upd (T 3) v x)) j = cX G d r A mc N T j) ⟨rfl, rfl, rfl, rfl, rfl, rfl, rfl, rfl, rfl, rfl, rfl, rfl⟩ hj)
    (by rw [cE_val hv]; show Sum.inr (6, [Value.int (upd (T 3) v x v), Value.int (T 4 v), Value.int (T 5 v)]) = _; rw [upd_at])
    (fun i hi c => cE_eq hi hN.h60 (fun _ => ⟨upd_no c, rfl, rfl⟩) (fun _ => ⟨rfl, rfl⟩) (fun _ => ⟨rfl, rfl⟩) (fun _ => ⟨rfl, rfl⟩) (fun _ => ⟨rfl, rfl⟩) (fun _ _ _ => ⟨rfl, rfl, rfl, rfl⟩) (fun _ _ _ => ⟨rfl, rfl, rfl, rfl, rfl, rfl⟩) (fun _ _ _ => rfl) (fun j _ _ => ⟨rfl, va_up_ne _ _ (by omega)⟩)) rfl
theorem sC_v4 (hC : sCQ G d r A mc g N T w) (hN : sSm N) (hv : v < 8) (hk : 12 ≤ k) (hw : w[k]? = some (A v, e0)) : sCQ G d r A mc g N (va_up T 4 (upd (T 4) v x)) (w.set k (A v, .inr (6, [.int (T 3 v), .int x, .int (T 5 v)]))) :=
  sC_pool hC (Or.inl hv) hk hw (fun j hj => z12 (P := fun j => cX G d r A mc N (va_up T 4 (upd (T 4) v x)) j = cX G d r A mc N T j) ⟨rfl, rfl, rfl, rfl, rfl, rfl, rfl, rfl, rfl, rfl, rfl, rfl⟩ hj)
    (by rw [cE_val hv]; show Sum.inr (6, [Value.int (T 3 v), Value.int (upd (T 4) v x v), Value.int (T 5 v)]) = _; rw [upd_at])
    (fun i hi c => cE_eq hi hN.h60 (fun _ => ⟨rfl, upd_no c, rfl⟩) (fun _ => ⟨rfl, rfl⟩) (fun _ => ⟨rfl, rfl⟩) (fun _ => ⟨rfl, rfl⟩) (fun _ => ⟨rfl, rfl⟩) (fun _ _ _ => ⟨rfl, rfl, rfl, rfl⟩) (fun _ _ _ => ⟨rfl, rfl, rfl, rfl, rfl, rfl⟩) (fun _ _ _ => rfl) (fun j _ _ => ⟨rfl, va_up_ne _ _ (by omega)⟩)) rfl
theorem sC_v5 (hC : sCQ G d r A mc g N T w) (hN : sSm N) (hv : v < 8) (hk : 12 ≤ k) (hw : w[k]? = some (A v, e0)) : sCQ G d r A mc g N (va_up T 5 (upd (T 5) v x)) (w.set k (A v, .inr (6, [.int (T 3 v), .int (T 4 v), .int x]))) :=
  sC_pool hC (Or.inl hv) hk hw (fun j hj => z12 (P := fun j => cX G d r A mc N (va_up T 5 (upd (T 5) v x)) j = cX G d r A mc N T j) ⟨rfl, rfl, rfl, rfl, rfl, rfl, rfl, rfl, rfl, rfl, rfl, rfl⟩ hj)
    (by rw [cE_val hv]; show Sum.inr (6, [Value.int (T 3 v), Value.int (T 4 v), Value.int (upd (T 5) v x v)]) = _; rw [upd_at])
    (fun i hi c => cE_eq hi hN.h60 (fun _ => ⟨rfl, rfl, upd_no c⟩) (fun _ => ⟨rfl, rfl⟩) (fun _ => ⟨rfl, rfl⟩) (fun _ => ⟨rfl, rfl⟩) (fun _ => ⟨rfl, rfl⟩) (fun _ _ _ => ⟨rfl, rfl, rfl, rfl⟩) (fun _ _ _ => ⟨rfl, rfl, rfl, rfl, rfl, rfl⟩) (fun _ _ _ => rfl) (fun j _ _ => ⟨rfl, va_up_ne _ _ (by omega)⟩)) rfl
theorem sC_t9 (hC : sCQ G d r A mc g N T w) (hN : sSm N) (ht : t < N 2) (hk : 12 ≤ k) (hw : w[k]? = some (A (100 + t), e0)) : sCQ G d r A mc g N (va_up T 9 (upd (T 9) t x)) (w.set k (A (100 + t), .inr (5, [.int (T 7 t), .int (T 8 t), .int x, .int (T 10 t)]))) :=
  sC_pool hC (zL_tag ht) hk hw (fun j hj => z12 (P := fun j => cX G d r A mc N (va_up T 9 (upd (T 9) t x)) j = cX G d r A mc N T j) ⟨rfl, rfl, rfl, rfl, rfl, rfl, rfl, rfl, rfl, rfl, rfl, rfl⟩ hj)
    (by rw [cE_tag (by have := hN.1; omega)]; show Sum.inr (5, [Value.int (T 7 t), Value.int (T 8 t), Value.int (upd (T 9) t x t), Value.int (T 10 t)]) = _; rw [upd_at])
    (fun i hi c => cE_eq hi hN.h60 (fun _ => ⟨rfl, rfl, rfl⟩) (fun _ => ⟨rfl, rfl⟩) (fun _ => ⟨rfl, rfl⟩) (fun _ => ⟨rfl, rfl⟩) (fun _ => ⟨rfl, rfl⟩) (fun j h _ => ⟨rfl, rfl, upd_no (by omega), rfl⟩) (fun _ _ _ => ⟨rfl, rfl, rfl, rfl, rfl, rfl⟩) (fun _ _ _ => rfl) (fun j _ _ => ⟨rfl, va_up_ne _ _ (by omega)⟩)) rfl
theorem sC_t10 (hC : sCQ G d r A mc g N T w) (hN : sSm N) (ht : t < N 2) (hk : 12 ≤ k) (hw : w[k]? = some (A (100 + t), e0)) : sCQ G d r A mc g N (va_up T 10 (upd (T 10) t x)) (w.set k (A (100 + t), .inr (5, [.int (T 7 t), .int (T 8 t), .int (T 9 t), .int x]))) :=
  sC_pool hC (zL_tag ht) hk hw (fun j hj => z12 (P := fun j => cX G d r A mc N (va_up T 10 (upd (T 10) t x)) j = cX G d r A mc N T j) ⟨rfl, rfl, rfl, rfl, rfl, rfl, rfl, rfl, rfl, rfl, rfl, rfl⟩ hj)
    (by rw [cE_tag (by have := hN.1; omega)]; show Sum.inr (5, [Value.int (T 7 t), Value.int (T 8 t), Value.int (T 9 t), Value.int (upd (T 10) t x t)]) = _; rw [upd_at])
    (fun i hi c => cE_eq hi hN.h60 (fun _ => ⟨rfl, rfl, rfl⟩) (fun _ => ⟨rfl, rfl⟩) (fun _ => ⟨rfl, rfl⟩) (fun _ => ⟨rfl, rfl⟩) (fun _ => ⟨rfl, rfl⟩) (fun j h _ => ⟨rfl, rfl, rfl, upd_no (by omega)⟩) (fun _ _ _ => ⟨rfl, rfl, rfl, rfl, rfl, rfl⟩) (fun _ _ _ => rfl) (fun j _ _ => ⟨rfl, va_up_ne _ _ (by omega)⟩)) rfl
theorem sC_a16 (hC : sCQ G d r A mc g N T w) (hN : sSm N) (ht : a < N 3) (hk : 12 ≤ k) (hw : w[k]? = some (A (200 + a), e0)) : sCQ G d r A mc g N (va_up T 16 (upd (T 16) a x)) (w.set k (A (200 + a), .inr (1, [.int (T 11 a), .int (T 12 a), .int (T 13 a), .int (T 14 a), .int (T 15 a), .int x]))) :=
  sC_pool hC (zL_alarm ht) hk hw (fun j hj => z12 (P := fun j => cX G d r A mc N (va_up T 16 (upd (T 16) a x)) j = cX G d r A mc N T j) ⟨rfl, rfl, rfl, rfl, rfl, rfl, rfl, rfl, rfl, rfl, rfl, rfl⟩ hj)
    (by rw [cE_alarm (by have := hN.2.1; omega)]; show Sum.inr (1, [Value.int (T 11 a), Value.int (T 12 a), Value.int (T 13 a), Value.int (T 14 a), Value.int (T 15 a), Value.int (upd (T 16) a x a)]) = _; rw [upd_at])
    (fun i hi c => cE_eq hi hN.h60 (fun _ => ⟨rfl, rfl, rfl⟩) (fun _ => ⟨rfl, rfl⟩) (fun _ => ⟨rfl, rfl⟩) (fun _ => ⟨rfl, rfl⟩) (fun _ => ⟨rfl, rfl⟩) (fun _ _ _ => ⟨rfl, rfl, rfl, rfl⟩) (fun j h _ => ⟨rfl, rfl, rfl, rfl, rfl, upd_no (by omega)⟩) (fun _ _ _ => rfl) (fun j _ _ => ⟨rfl, va_up_ne _ _ (by omega)⟩)) rfl
/-- a row that no cell of the pool shows -/
theorem cE_row {q : Nat} (hq : q < 20) (h3 : q ≠ 3) (h4 : q ≠ 4) (h5 : q ≠ 5) (h7 : q < 7 ∨ 16 < q) (hN : sSm N) {i : Nat} (hi : cL N i) : cE G A N (va_up T q f) g i = cE G A N T g i :=
  cE_eq hi hN.h60 (fun _ => ⟨by rw [va_up_ne _ _ (Ne.symm h3)], by rw [va_up_ne _ _ (Ne.symm h4)], by rw [va_up_ne _ _ (Ne.symm h5)]⟩) (fun _ => ⟨rfl, rfl⟩) (fun _ => ⟨rfl, rfl⟩) (fun _ => ⟨rfl, rfl⟩) (fun _ => ⟨rfl, rfl⟩)
    (fun _ _ _ => ⟨by rw [va_up_ne _ _ (by omega)], by rw [va_up_ne _ _ (by omega)], by rw [va_up_ne _ _ (by omega)], by rw [va_up_ne _ _ (by omega)]⟩)
    (fun _ _ _ => ⟨by rw [va_up_ne _ _ (by omega)], by rw [va_up_ne _ _ (by omega)], by rw [va_up_ne _ _ (by omega)], by rw [va_up_ne _ _ (by omega)], by rw [va_up_ne _ _ (by omega)], by rw [va_up_ne _ _ (by omega)]⟩) (fun _ _ _ => rfl) (fun j _ _ => ⟨rfl, va_up_ne _ _ (by omega)⟩)
theorem sC_x4 (hC : sCQ G d r A mc g N T w) (hN : sSm N) : sCQ G d r A mc g N (va_up T 1 f) (w.set 4 (r 4, .inl (G.2 0, 9, .inl f))) :=
  sC_fix hC (by omega) (fun j hj => z12 (P := fun j => cX G d r A mc N (va_up T 1 f) j = if j = 4 then (r 4, .inl (G.2 0, 9, .inl f)) else cX G d r A mc N T j) ⟨rfl, rfl, rfl, rfl, rfl, rfl, rfl, rfl, rfl, rfl, rfl, rfl⟩ hj) (fun _ h => h) (fun i hi => cE_row (by omega) (by omega) (by omega) (by omega) (by omega) hN hi) ⟨rfl, rfl⟩
theorem sC_x3 (hC : sCQ G d r A mc g N T w) (hN : sSm N) : sCQ G d r A mc g N (va_up T 2 f) (w.set 3 (r 3, .inl (G.2 2, 9, .inl f))) :=
  sC_fix hC (by omega) (fun j hj => z12 (P := fun j => cX G d r A mc N (va_up T 2 f) j = if j = 3 then (r 3, .inl (G.2 2, 9, .inl f)) else cX G d r A mc N T j) ⟨rfl, rfl, rfl, rfl, rfl, rfl, rfl, rfl, rfl, rfl, rfl, rfl⟩ hj) (fun _ h => h) (fun i hi => cE_row (by omega) (by omega) (by omega) (by omega) (by omega) hN hi) ⟨rfl, rfl⟩
theorem sC_x2 (hC : sCQ G d r A mc g N T w) (hN : sSm N) : sCQ G d r A mc g N (va_up T 6 f) (w.set 2 (r 2, .inl (G.2 0, 3, .inl f))) :=
  sC_fix hC (by omega) (fun j hj => z12 (P := fun j => cX G d r A mc N (va_up T 6 f) j = if j = 2 then (r 2, .inl (G.2 0, 3, .inl f)) else cX G d r A mc N T j) ⟨rfl, rfl, rfl, rfl, rfl, rfl, rfl, rfl, rfl, rfl, rfl, rfl⟩ hj) (fun _ h => h) (fun i hi => cE_row (by omega) (by omega) (by omega) (by omega) (by omega) hN hi) ⟨rfl, rfl⟩
theorem sC_x8 (hC : sCQ G d r A mc g N T w) (hN : sSm N) : sCQ G d r A mc g N (va_up T 18 f) (w.set 8 (r 8, .inl (G.2 0, 60, .inl f))) :=
  sC_fix hC (by omega) (fun j hj => z12 (P := fun j => cX G d r A mc N (va_up T 18 f) j = if j = 8 then (r 8, .inl (G.2 0, 60, .inl f)) else cX G d r A mc N T j) ⟨rfl, rfl, rfl, rfl, rfl, rfl, rfl, rfl, rfl, rfl, rfl, rfl⟩ hj) (fun _ h => h) (fun i hi => cE_row (by omega) (by omega) (by omega) (by omega) (by omega) hN hi) ⟨rfl, rfl⟩
theorem sC_x11 (hC : sCQ G d r A mc g N T w) (hN : sSm N) : sCQ G d r A mc g N (va_up T 17 f) (w.set 11 (r 11, .inl (G.2 3, 40, .inl f))) :=
  sC_fix hC (by omega) (fun j hj => z12 (P := fun j => cX G d r A mc N (va_up T 17 f) j = if j = 11 then (r 11, .inl (G.2 3, 40, .inl f)) else cX G d r A mc N T j) ⟨rfl, rfl, rfl, rfl, rfl, rfl, rfl, rfl, rfl, rfl, rfl, rfl⟩ hj) (fun _ h => h) (fun i hi => cE_row (by omega) (by omega) (by omega) (by omega) (by omega) hN hi) ⟨rfl, rfl⟩
/-- a count that no cell of the pool shows -/
theorem cE_cnt {q : Nat} {n : Nat} (hq : q = 0 ∨ q = 4 ∨ q = 6) (hN : sSm N) {i : Nat} (hi : cL N i) : cE G A (va_up N q n) T g i = cE G A N T g i :=
  cE_eq hi hN.h60 (fun _ => ⟨rfl, rfl, rfl⟩) (fun _ => ⟨by rw [va_up_ne _ _ (by omega)], rfl⟩) (fun _ => ⟨by rw [va_up_ne _ _ (by omega)], rfl⟩) (fun _ => ⟨by rw [va_up_ne _ _ (by omega)], rfl⟩) (fun _ => ⟨by rw [va_up_ne _ _ (by omega)], rfl⟩) (fun _ _ _ => ⟨rfl, rfl, rfl, rfl⟩) (fun _ _ _ => ⟨rfl, rfl, rfl, rfl, rfl, rfl⟩) (fun _ _ _ => rfl) (fun j _ _ => ⟨va_up_ne _ _ (by omega), rfl⟩)
theorem sC_x10 {n : Nat} (hC : sCQ G d r A mc g N T w) (hN : sSm N) : sCQ G d r A mc g (va_up N 4 n) T (w.set 10 (r 10, .inr (2, [.ref (r 11), .int (nI n)]))) :=
  sC_fix hC (by omega) (fun j hj => z12 (P := fun j => cX G d r A mc (va_up N 4 n) T j = if j = 10 then (r 10, .inr (2, [.ref (r 11), .int (nI n)])) else cX G d r A mc N T j) ⟨rfl, rfl, rfl, rfl, rfl, rfl, rfl, rfl, rfl, rfl, rfl, rfl⟩ hj) (fun _ h => h) (fun i hi => cE_cnt (by omega) hN hi) ⟨rfl, rfl⟩
theorem sC_n0 {n : Nat} (hC : sCQ G d r A mc g N T w) (hN : sSm N) : sCQ G d r A mc g (va_up N 0 n) T (w.set 0 (r 0, .inr (7, [.ref (r 1), .ref (r 2), .ref (r 3), .ref (r 4), .ref (r 5), .ref (r 6), .ref (r 7), .ref (r 8), .ref (r 9), .ref (r 10), .int (nI n), .int (T 19 0), .int (T 19 1), .int (nI (N 6))]))) :=
  sC_fix hC (by omega) (fun j hj => z12 (P := fun j => cX G d r A mc (va_up N 0 n) T j = if j = 0 then (r 0, .inr (7, [.ref (r 1), .ref (r 2), .ref (r 3), .ref (r 4), .ref (r 5), .ref (r 6), .ref (r 7), .ref (r 8), .ref (r 9), .ref (r 10), .int (nI n), .int (T 19 0), .int (T 19 1), .int (nI (N 6))])) else cX G d r A mc N T j) ⟨rfl, rfl, rfl, rfl, rfl, rfl, rfl, rfl, rfl, rfl, rfl, rfl⟩ hj) (fun _ h => h) (fun i hi => cE_cnt (by omega) hN hi) ⟨rfl, rfl⟩
theorem sC_n6 {n : Nat} (hC : sCQ G d r A mc g N T w) (hN : sSm N) : sCQ G d r A mc g (va_up N 6 n) T (w.set 0 (r 0, .inr (7, [.ref (r 1), .ref (r 2), .ref (r 3), .ref (r 4), .ref (r 5), .ref (r 6), .ref (r 7), .ref (r 8), .ref (r 9), .ref (r 10), .int (nI (N 0)), .int (T 19 0), .int (T 19 1), .int (nI n)]))) :=
  sC_fix hC (by omega) (fun j hj => z12 (P := fun j => cX G d r A mc (va_up N 6 n) T j = if j = 0 then (r 0, .inr (7, [.ref (r 1), .ref (r 2), .ref (r 3), .ref (r 4), .ref (r 5), .ref (r 6), .ref (r 7), .ref (r 8), .ref (r 9), .ref (r 10), .int (nI (N 0)), .int (T 19 0), .int (T 19 1), .int (nI n)])) else cX G d r A mc N T j) ⟨rfl, rfl, rfl, rfl, rfl, rfl, rfl, rfl, rfl, rfl, rfl, rfl⟩ hj) (fun _ h => h) (fun i hi => cE_cnt (by omega) hN hi) ⟨rfl, rfl⟩
theorem sC_t19 (hC : sCQ G d r A mc g N T w) (hN : sSm N) : sCQ G d r A mc g N (va_up T 19 f) (w.set 0 (r 0, .inr (7, [.ref (r 1), .ref (r 2), .ref (r 3), .ref (r 4), .ref (r 5), .ref (r 6), .ref (r 7), .ref (r 8), .ref (r 9), .ref (r 10), .int (nI (N 0)), .int (f 0), .int (f 1), .int (nI (N 6))]))) :=
  sC_fix hC (by omega) (fun j hj => z12 (P := fun j => cX G d r A mc N (va_up T 19 f) j = if j = 0 then (r 0, .inr (7, [.ref (r 1), .ref (r 2), .ref (r 3), .ref (r 4), .ref (r 5), .ref (r 6), .ref (r 7), .ref (r 8), .ref (r 9), .ref (r 10), .int (nI (N 0)), .int (f 0), .int (f 1), .int (nI (N 6))])) else cX G d r A mc N T j) ⟨rfl, rfl, rfl, rfl, rfl, rfl, rfl, rfl, rfl, rfl, rfl, rfl⟩ hj) (fun _ h => h) (fun i hi => cE_row (by omega) (by omega) (by omega) (by omega) (by omega) hN hi) ⟨rfl, rfl⟩
theorem cE_note {x : Int32} {f : Nat → Int32} {n : Nat} (hN : sSm N) {i : Nat} (hi : cL N i) (h8 : i ≠ 8) : cE G A (va_up N 1 n) (va_up T 0 f) (va_up g 8 f) i = cE G A N T g i :=
  cE_eq hi hN.h60 (fun _ => ⟨rfl, rfl, rfl⟩) (fun h => (h8 h).elim) (fun _ => ⟨rfl, rfl⟩) (fun _ => ⟨rfl, rfl⟩) (fun _ => ⟨rfl, rfl⟩) (fun _ _ _ => ⟨rfl, rfl, rfl, rfl⟩) (fun _ _ _ => ⟨rfl, rfl, rfl, rfl, rfl, rfl⟩) (fun _ _ _ => rfl) (fun j _ _ => ⟨va_up_ne _ _ (by omega), va_up_ne _ _ (by omega)⟩)
end ZSC
