/-! the log's notes -/
section ZSN
variable {G : zG} {d : Nat} {r A : Nat → Nat} {mc : Nat → Int32} {g : Nat → Nat → Int32} {N : Nat → Nat} {T : Nat → Nat → Int32} {w : va_W} {k : Nat} {e0 : va_E} {x : Int32} {f f0 : Nat → Int32}
theorem cE_noted {A2 : Nat → Nat} {n : Nat} (hN : sSm N) (hA : ∀ i, i ≠ 8 → A2 i = A i) {i : Nat} (hi : cL N i) (h8 : i ≠ 8) : cE G A2 (va_up N 1 n) (va_up T 0 f) (va_up g 8 f0) i = cE G A N T g i :=
  cE_eq hi hN.h60 (fun _ => ⟨rfl, rfl, rfl⟩) (fun h => (h8 h).elim) (fun _ => ⟨rfl, funext fun k => by rw [cGa, cGa, hA _ (by omega)]⟩) (fun _ => ⟨rfl, funext fun k => by rw [cGa, cGa, hA _ (by omega)]⟩) (fun _ => ⟨rfl, funext fun k => by rw [cGa, cGa, hA _ (by omega)]⟩) (fun _ _ _ => ⟨rfl, rfl, rfl, rfl⟩) (fun _ _ _ => ⟨rfl, rfl, rfl, rfl, rfl, rfl⟩) (fun _ _ _ => hA _ (by omega)) (fun j _ _ => ⟨va_up_ne _ _ (by omega), va_up_ne _ _ (by omega)⟩)
theorem cX_noted {A2 : Nat → Nat} {n : Nat} (hA : ∀ i, i ≠ 8 → A2 i = A i) {j : Nat} (hj : j < 12) : cX G d r A2 mc (va_up N 1 n) (va_up T 0 f) j = if j = 9 then (r 9, .inr (3, [.ref (A2 8), .int (nI n)])) else cX G d r A mc N T j := by
  have h1 : cGa A2 0 8 = cGa A 0 8 := funext fun k => by
    by_cases c : k < 8
    · rw [cGa_p c, cGa_p c, hA _ (by omega)]
    · rw [cGa, cGa, if_neg c, if_neg c]
  refine z12 (P := fun j => cX G d r A2 mc (va_up N 1 n) (va_up T 0 f) j = if j = 9 then (r 9, .inr (3, [.ref (A2 8), .int (nI n)])) else cX G d r A mc N T j) ⟨rfl, ?_, rfl, rfl, rfl, ?_, ?_, ?_, rfl, rfl, rfl, rfl⟩ hj
  · show (r 1, Sum.inl (G.2 4, 8, Sum.inr (Sum.inr (Sum.inr (Sum.inr (cGa A2 0 8)))))) = (r 1, Sum.inl (G.2 4, 8, Sum.inr (Sum.inr (Sum.inr (Sum.inr (cGa A 0 8))))))
    rw [h1]
  · show (r 5, Sum.inr (0, [Value.int (mc 0), cDt d (N 2) (A2 9), Value.int (nI (N 2))])) = (r 5, Sum.inr (0, [Value.int (mc 0), cDt d (N 2) (A 9), Value.int (nI (N 2))]))
    rw [hA 9 (by omega)]
  · show (r 6, Sum.inr (0, [Value.int (mc 1), cDt d (N 3) (A2 10), Value.int (nI (N 3))])) = (r 6, Sum.inr (0, [Value.int (mc 1), cDt d (N 3) (A 10), Value.int (nI (N 3))]))
    rw [hA 10 (by omega)]
  · show (r 7, Sum.inr (0, [Value.int (mc 2), cDt d (N 5) (A2 11), Value.int (nI (N 5))])) = (r 7, Sum.inr (0, [Value.int (mc 2), cDt d (N 5) (A 11), Value.int (nI (N 5))]))
    rw [hA 11 (by omega)]
theorem sC_note1 (hC : sCQ G d r A mc g N T w) (hN : sSm N) (hk : 12 ≤ k) (h8 : w[k]? = some (A 8, e0)) (hlt : N 1 < zcap (N 1)) : sCQ G d r A mc (va_up g 8 (upd (g 8) (N 1) x)) (va_up N 1 (N 1 + 1)) (va_up T 0 (upd (T 0) (N 1) x)) ((w.set k (A 8, .inl (G.2 0, zcap (N 1), .inl (upd (g 8) (N 1) x)))).set 9 (r 9, .inr (3, [.ref (A 8), .int (nI (N 1 + 1))]))) := by
  refine ⟨((hC.1.setP (i0 := 8) (Or.inr (Or.inl rfl)) hk h8 _).setX (j := 9) (by omega) _).cg (fun j hj => cX_noted (fun _ _ => rfl) hj) (fun _ h => h) (fun _ _ => rfl) (fun i hi => ?_), fun q hq => ?_⟩
  · by_cases c : i = 8
    · subst c
      rw [va_up_self, cE_log]
      show Sum.inl (G.2 0, zcap (N 1 + 1), Sum.inl (upd (g 8) (N 1) x)) = _
      rw [show zcap (N 1 + 1) = zcap (N 1) from if_pos hlt]
    · rw [va_up_ne _ _ c]
      exact cE_noted hN (fun _ _ => rfl) hi c
  · have hq : q < N 1 + 1 := hq
    show upd (g 8) (N 1) x q = upd (T 0) (N 1) x q
    by_cases c : q = N 1
    · rw [c, upd_at, upd_at]
    · rw [upd_no c, upd_no c, hC.2 q (by omega)]
theorem sC_len (hC : sCQ G d r A mc g N T w) : 12 ≤ w.length := by
  have h1 := hC.1.1 11 (by omega)
  exact (List.getElem?_eq_some_iff.mp h1).1
theorem sC_note2 {zq : Nat} (hC : sCQ G d r A mc g N T w) (hN : sSm N) (hfull : ¬ N 1 < zcap (N 1)) (hf0 : ∀ q, q < N 1 → f0 q = g 8 q) (hq : ∀ (k : Nat) (y : va_E), w[k]? = some (zq, y) → False) : sCQ G d r (va_up A 8 zq) mc (va_up g 8 (upd f0 (N 1) x)) (va_up N 1 (N 1 + 1)) (va_up T 0 (upd (T 0) (N 1) x)) ((((w ++ ([(zq, .inl (G.2 0, 2 * zcap (N 1), .inl f0))] : va_W)).set 9 (r 9, .inr (3, [.ref zq, .int (nI (N 1))]))).set w.length (zq, .inl (G.2 0, 2 * zcap (N 1), .inl (upd f0 (N 1) x)))).set 9 (r 9, .inr (3, [.ref zq, .int (nI (N 1 + 1))]))) := by
  have hlen := sC_len hC
  rw [List.set_comm _ _ (show 9 ≠ w.length by omega), List.set_set, z_setl]
  refine ⟨((hC.1.push (P2 := cL N) (i0 := 8) (.inl (G.2 0, 2 * zcap (N 1), .inl (upd f0 (N 1) x))) (fun _ h => Or.inr h) hq).setX (j := 9) (by omega) _).cg (fun j hj => cX_noted (A2 := va_up A 8 zq) (fun i h => va_up_ne _ _ h) hj) (fun _ h => h) (fun _ _ => rfl) (fun i hi => ?_), fun q hq => ?_⟩
  · by_cases c : i = 8
    · subst c
      rw [va_up_self, cE_log]
      show Sum.inl (G.2 0, zcap (N 1 + 1), Sum.inl (upd f0 (N 1) x)) = _
      rw [show zcap (N 1 + 1) = 2 * zcap (N 1) from if_neg hfull]
    · rw [va_up_ne _ _ c]
      exact cE_noted hN (fun i h => va_up_ne _ _ h) hi c
  · have hq : q < N 1 + 1 := hq
    show upd f0 (N 1) x q = upd (T 0) (N 1) x q
    by_cases c : q = N 1
    · rw [c, upd_at, upd_at]
    · rw [upd_no c, upd_no c, hf0 q (by omega), hC.2 q (by omega)]
end ZSN
section ZCQ
variable {p : Program} {l : Launch} {e : Env} {R : Room} {s : State} {m : MethodId} {args : Array Value} {below : List Frame} {meth : Method} {c : Code} {H : Heap} {locs : List Loc} {cells slots : Nat} {Q : State → Prop}
variable {pc : Nat} {ls : Array Slot} {rest st0 : List Value} {a : Array Value} {A0 : Nat → Prop} {H0 : Heap} {mc ms : Nat} {free : Addr → Prop}
theorem z_cuq {G : zG} {w : va_W} {post : Option Nat → va_W → Prop} (hr : va_Run p l e R s m args below meth c H locs cells slots mc ms (F0 m pc ls st0) rest (va_Qq post (zB G (va_A w H.size)) (va_A w H.size) a) (va_A w H.size)) (hD : va_D A0 w) (hS : va_S A0 H0 H locs) (hA : ∀ q, H0.size ≤ q → A0 q)
    (kk : ∀ (r : Option Nat) (w' : va_W) (H : Heap) (locs : List Loc), post r w' → va_P G.1 vwCl w' H → va_D A0 w' → va_S A0 H0 H locs → W p l e R s m args below meth c H locs (cells + mc) (slots + ms) Q (F0 m (pc + 3) ls (va_rf r :: rest))) : W p l e R s m args below meth c H locs cells slots Q (F0 m pc ls st0) := by
  have hF := z_in (G := G) hD hS hA
  refine va_callq hr hS (fun q _ h => hF q h) hF (fun r u t H1 locs ht hvm hw hB hz1 hk1 hS => ?_)
  obtain ⟨hP1, hD1⟩ := hB
  rw [ht] at hP1
  exact kk r u H1 locs hw hP1 (hD1.weaken (fun _ _ _ h => hF _ h)) hS
end ZCQ
/-- nothing of a longer world is at two places -/
theorem va_D.new {A : Nat → Prop} {w : va_W} {x : Nat × va_E} (h : va_D A (w ++ [x])) (k : Nat) (y : va_E) (hk : w[k]? = some (x.1, y)) : False := by
  have h1 := (List.getElem?_eq_some_iff.mp hk).1
  have := h.1 k w.length (x.1, y) x (z_app hk) z_last rfl
  omega
theorem zmin {n : Nat} (h : 2 * n < 2 ^ 31) : (if nI (2 * n) < nI n then nI (2 * n) else nI n) = nI n := by
  rw [if_neg]
  intro z
  have := (nI_ltI h (by omega)).mp z
  omega
theorem zcpy0 {f : Nat → Int32} {n q : Nat} (h : q < n) : va_cpy f (fun _ => 0) 0 0 n q = f q := by
  rw [va_cpy, if_pos (by omega)]
  congr 1
  omega
/-- this world is the class's of (N, T), its objects where they were, but for the log's array -/
def sCN (G : zG) (d : Nat) (r A : Nat → Nat) (N : Nat → Nat) (T : Nat → Nat → Int32) (w : va_W) : Prop := ∃ (A2 : Nat → Nat) (mc : Nat → Int32) (g : Nat → Nat → Int32), sCQ G d r A2 mc g N T w ∧ ∀ i, i ≠ 8 → A2 i = A i
theorem sCN.o {G : zG} {d : Nat} {r A : Nat → Nat} {N : Nat → Nat} {T : Nat → Nat → Int32} {w : va_W} (h : sCN G d r A N T w) : sCO G d r N T w := by
  obtain ⟨A2, mc, g, h1, -⟩ := h
  exact ⟨A2, mc, g, h1⟩
