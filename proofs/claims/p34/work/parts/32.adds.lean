/-! adding to a list, over the class's world -/
theorem hasRoom_le {s : State} {pl : Platform} {r r2 : Room} (h : s.hasRoom pl r2 = true) (hf : r.frames ≤ r2.frames) (hc : r.cells ≤ r2.cells) (hs : r.slots ≤ r2.slots) (hl : r.locals ≤ r2.locals) : s.hasRoom pl r = true := by
  unfold State.hasRoom at h ⊢
  simp only [Bool.and_eq_true, decide_eq_true_eq] at h ⊢
  obtain ⟨⟨⟨⟨h1, h2, h3, h4, h5, h6⟩, h7⟩, h8⟩, h9⟩ := h
  exact ⟨⟨⟨⟨by omega, by omega, by omega, by omega, by omega, h6⟩, by omega⟩, by omega⟩, h9⟩
theorem Met_up {l : Launch} {y : MethodName} {ws : List Cond} {rm rm2 : Room} {Pc : Array Value → State → Prop} {Qc Qc2 : Array Value → State → Outcome → State → Prop} {mc ms mc2 ms2 : Nat} {free : Addr → Prop} (h : Met l y ws rm Pc Qc mc ms free) (hf : rm.frames ≤ rm2.frames) (hc : rm.cells ≤ rm2.cells) (hs : rm.slots ≤ rm2.slots) (hl : rm.locals ≤ rm2.locals) (h1 : mc ≤ mc2) (h2 : ms ≤ ms2) (hQ : ∀ a st o t, Pc a st → Qc a st o t → Qc2 a st o t) : Met l y ws rm2 Pc Qc2 mc2 ms2 free := by
  intro p e ha hca hk s m args below hfr happ hp ht
  have happ2 : (headSpec ws rm).appliesLoose y e.platform s = true := by
    unfold Spec.appliesLoose at happ ⊢
    rw [hfr] at happ ⊢
    simp only [Bool.and_eq_true] at happ ⊢
    obtain ⟨⟨g1, g2⟩, g3⟩ := happ
    exact ⟨⟨g1, hasRoom_le g2 hf hc hs hl⟩, g3⟩
  obtain ⟨n, o, a1, a2, a3, hq, L, hfe, hL⟩ := h p e ha hca hk s m args below hfr happ2 hp ht
  exact ⟨n, o, a1, a2, a3, hQ _ _ _ _ hp hq, L, ⟨hfe.1, hfe.2.1, hfe.2.2.mono h1 h2⟩, hL⟩
theorem inj_up {P P2 : Nat → Prop} {A : Nat → Nat} {i0 x : Nat} (h : ∀ i j, P i → P j → A i = A j → i = j) (hx : ∀ i, P i → i ≠ i0 → A i ≠ x) (hP2 : ∀ i, P2 i → i = i0 ∨ P i) : ∀ i j, P2 i → P2 j → va_up A i0 x i = va_up A i0 x j → i = j := by
  intro i j hi hj hij
  by_cases c : i = i0 <;> by_cases e : j = i0
  · rw [c, e]
  · rw [c, va_up_self, va_up_ne _ _ e] at hij
    exact (hx j ((hP2 j hj).resolve_left e) e hij.symm).elim
  · rw [e, va_up_self, va_up_ne _ _ c] at hij
    exact (hx i ((hP2 i hi).resolve_left c) c hij).elim
  · rw [va_up_ne _ _ c, va_up_ne _ _ e] at hij
    exact h i j ((hP2 i hi).resolve_left c) ((hP2 j hj).resolve_left e) hij
/-- a cell that is there gets a role -/
theorem zSt.role {X : Nat → Nat × va_E} {P P2 : Nat → Prop} {A : Nat → Nat} {E : Nat → va_E} {w : va_W} (h : zSt X P A E w) {i0 k x : Nat} {e : va_E} (hk : 12 ≤ k) (hw : w[k]? = some (x, e)) (hx : ∀ i, P i → A i ≠ x) (hP2 : ∀ i, P2 i → i = i0 ∨ P i) : zSt X P2 (va_up A i0 x) (va_up E i0 e) w := by
  refine ⟨h.1, fun i hi => ?_, inj_up h.2.2 (fun i hi _ => hx i hi) hP2⟩
  by_cases c : i = i0
  · subst c
    exact ⟨k, hk, by rw [va_up_self, va_up_self]; exact hw⟩
  · rw [va_up_ne _ _ c, va_up_ne _ _ c]
    exact h.2.1 i ((hP2 i hi).resolve_left c)
theorem zSt.app {X : Nat → Nat × va_E} {P : Nat → Prop} {A : Nat → Nat} {E : Nat → va_E} {w : va_W} (h : zSt X P A E w) (v : va_W) : zSt X P A E (w ++ v) :=
  ⟨fun j hj => z_app (h.1 j hj), fun i hi => by obtain ⟨k, h1, h2⟩ := h.2.1 i hi; exact ⟨k, h1, z_app h2⟩, h.2.2⟩
/-- a list that has grown by one -/
theorem zSt.lst {G : zG} {X : Nat → Nat × va_E} {P P2 : Nat → Prop} {A : Nat → Nat} {E : Nat → va_E} {w w1 : va_W} {D0 : Nat → Prop} (h : zSt X P A E w) (hD : va_D D0 w) {li bl dd n v q ri : Nat} {ga : Nat → Option Nat} (hli : li < 12) (hz : zAd G w w1 li bl dd n v q ga) (hdd : (P ri ∧ dd = A ri) ∨ ((∀ (k : Nat) (y : va_E), w[k]? = some (dd, y) → False) ∧ n = 0)) (hP2 : ∀ i, P2 i → i = ri ∨ P i) :
    ∃ mc : Int32, zSt (fun j => if j = li then (bl, .inr (0, [.int mc, .ref q, .int (nI (n + 1))])) else X j) P2 (va_up A ri q) (va_up E ri (.inl (G.2 5, lcap (n + 1), .inr (.inr (.inr (.inr (va_up ga n (some v)))))))) w1 := by
  obtain ⟨h1, ⟨mc, h2⟩, ⟨kq, h3, h4⟩, h5⟩ := hz
  refine ⟨mc, fun j hj => ?_, fun i hi => ?_, inj_up h.2.2 (fun i hi hne e => ?_) hP2⟩
  · show w1[j]? = some (if j = li then (bl, .inr (0, [.int mc, .ref q, .int (nI (n + 1))])) else X j)
    by_cases c : j = li
    · rw [if_pos c, c]
      exact h2
    · rw [if_neg c]
      refine h1 j (X j) (h.1 j hj) c (fun e => ?_)
      rcases hdd with ⟨hp, hd⟩ | ⟨hd, -⟩
      · obtain ⟨k, hk, hw⟩ := h.2.1 ri hp
        have := hD.1 j k _ _ (h.1 j hj) hw (e.trans hd)
        omega
      · exact hd j (X j).2 (by rw [h.1 j hj, ← e])
  · by_cases c : i = ri
    · subst c
      exact ⟨kq, h3, by rw [va_up_self, va_up_self]; exact h4⟩
    · have hp := (hP2 i hi).resolve_left c
      obtain ⟨k, hk, hw⟩ := h.2.1 i hp
      refine ⟨k, hk, ?_⟩
      rw [va_up_ne _ _ c, va_up_ne _ _ c]
      refine h1 k _ hw (by omega) (fun e => ?_)
      rcases hdd with ⟨hq, hd⟩ | ⟨hd, -⟩
      · exact c (h.2.2 i ri hp hq (e.trans hd))
      · have e : A i = dd := e
        exact hd k (E i) (by rw [hw, ← e])
  · rcases h5 with ⟨h0, hq⟩ | hq
    · rcases hdd with ⟨hp, hd⟩ | ⟨-, hn⟩
      · exact hne (h.2.2 i ri hi hp (e.trans (hq.trans hd)))
      · omega
    · obtain ⟨k, hk, hw⟩ := h.2.1 i hi
      exact hq k (E i) (by rw [hw, ← e])
theorem cGa_up {A A2 : Nat → Nat} {o n v : Nat} (h : ∀ k, k < n → A2 (o + k) = A (o + k)) (hv : A2 (o + n) = v) : va_up (cGa A o n) n (some v) = cGa A2 o (n + 1) := by
  funext k
  by_cases c : k = n
  · subst c
    rw [va_up_self, cGa_p (Nat.lt_succ_self k), hv]
  · rw [va_up_ne _ _ c]
    by_cases e : k < n
    · rw [cGa_p e, cGa_p (by omega), h k e]
    · rw [cGa, cGa, if_neg e, if_neg (by omega)]
theorem sC_app {G : zG} {d : Nat} {r A : Nat → Nat} {mc : Nat → Int32} {g : Nat → Nat → Int32} {N : Nat → Nat} {T : Nat → Nat → Int32} {w : va_W} (hC : sCQ G d r A mc g N T w) (v : va_W) : sCQ G d r A mc g N T (w ++ v) := ⟨hC.1.app v, hC.2⟩
theorem sC_fresh {G : zG} {d : Nat} {r A : Nat → Nat} {mc : Nat → Int32} {g : Nat → Nat → Int32} {N : Nat → Nat} {T : Nat → Nat → Int32} {w : va_W} {x : Nat} (hC : sCQ G d r A mc g N T w) (hf : ∀ (k : Nat) (y : va_E), w[k]? = some (x, y) → False) : ∀ i, cL N i → A i ≠ x := by
  intro i hi e
  obtain ⟨k, hk, hw⟩ := hC.1.2.1 i hi
  exact hf k _ (by rw [hw, e])
theorem sC_addt {G : zG} {d : Nat} {r A : Nat → Nat} {mc : Nat → Int32} {g : Nat → Nat → Int32} {N : Nat → Nat} {T : Nat → Nat → Int32} {w w1 : va_W} {D0 : Nat → Prop} {ow va : Int32} {k v q : Nat} (hC : sCQ G d r A mc g N T w) (hN : sSm N) (hD : va_D D0 w) (hd : ¬ D0 d) (hlt : N 2 < 40) (hk : 12 ≤ k) (hw : w[k]? = some (v, .inr (5, [.int ow, .int va, .int (-1), .int 0]))) (hf : ∀ i, cL N i → A i ≠ v) (hz : zAd G w w1 5 (r 5) (if N 2 = 0 then d else A 9) (N 2) v q (cGa A 100 (N 2))) : ∃ (A2 : Nat → Nat) (mc2 : Nat → Int32), sCQ G d r A2 mc2 g (va_up N 2 (N 2 + 1)) (va_up (va_up (va_up (va_up T 7 (upd (T 7) (N 2) ow)) 8 (upd (T 8) (N 2) va)) 9 (upd (T 9) (N 2) (-1))) 10 (upd (T 10) (N 2) 0)) w1 ∧ A2 (100 + N 2) = v := by
  have h1 := hC.1.role (P2 := fun i => i = 100 + N 2 ∨ cL N i) (i0 := 100 + N 2) hk hw hf (fun _ h => h)
  have hA9 : (va_up A (100 + N 2) v) 9 = A 9 := by
    rw [va_up_ne _ _ (show 9 ≠ 100 + N 2 by omega)]
  obtain ⟨mz, h2⟩ := h1.lst (P2 := fun i => i = 9 ∨ i = 100 + N 2 ∨ cL N i) (ri := 9) hD (by omega) hz (by
    by_cases c : N 2 = 0
    · rw [if_pos c]
      exact Or.inr ⟨fun k9 y9 h9 => hd (hD.2 k9 _ h9), c⟩
    · rw [if_neg c, hA9]
      exact Or.inl ⟨Or.inr (zL_l9 (Nat.pos_of_ne_zero c)), rfl⟩) (fun _ h => h)
  refine ⟨(va_up (va_up A (100 + N 2) v) 9 q), (fun j => if j = 0 then mz else mc j), ⟨h2.cg (fun j hj => ?_) (fun i hi => ?_) (fun i hi => rfl) (fun i hi => ?_), fun q9 hq9 => ?_⟩, by rw [va_up_ne _ _ (show 100 + N 2 ≠ 9 by omega), va_up_self]⟩
  · have hA : ∀ i, i < 12 → i ≠ 9 → (va_up (va_up A (100 + N 2) v) 9 q) i = A i := fun i h9 hi => by rw [va_up_ne _ _ hi, va_up_ne _ _ (show i ≠ 100 + N 2 by omega)]
    have hv : cGa (va_up (va_up A (100 + N 2) v) 9 q) 0 8 = cGa A 0 8 := funext fun k9 => by
      by_cases c : k9 < 8
      · rw [cGa_p c, cGa_p c, hA _ (by omega) (by omega)]
      · rw [cGa, cGa, if_neg c, if_neg c]
    refine z12 (P := fun j => cX G d r (va_up (va_up A (100 + N 2) v) 9 q) (fun j => if j = 0 then mz else mc j) (va_up N 2 (N 2 + 1)) (va_up (va_up (va_up (va_up T 7 (upd (T 7) (N 2) ow)) 8 (upd (T 8) (N 2) va)) 9 (upd (T 9) (N 2) (-1))) 10 (upd (T 10) (N 2) 0)) j = if j = 5 then (r 5, .inr (0, [.int mz, .ref q, .int (nI (N 2 + 1))])) else cX G d r A mc N T j) ⟨?_, ?_, ?_, ?_, ?_, ?_, ?_, ?_, ?_, ?_, ?_, ?_⟩ hj
    · rfl
    · show (r 1, Sum.inl (G.2 4, 8, Sum.inr (Sum.inr (Sum.inr (Sum.inr (cGa (va_up (va_up A (100 + N 2) v) 9 q) 0 8)))))) = (r 1, Sum.inl (G.2 4, 8, Sum.inr (Sum.inr (Sum.inr (Sum.inr (cGa A 0 8))))))
      rw [hv]
    · rfl
    · rfl
    · rfl
    · show (r 5, Sum.inr (0, [Value.int mz, cDt d (N 2 + 1) ((va_up (va_up A (100 + N 2) v) 9 q) 9), Value.int (nI (N 2 + 1))])) = (r 5, Sum.inr (0, [Value.int mz, Value.ref q, Value.int (nI (N 2 + 1))]))
      rw [cDt_p (Nat.succ_pos _), va_up_self]
    · show (r 6, Sum.inr (0, [Value.int (mc 1), cDt d (N 3) ((va_up (va_up A (100 + N 2) v) 9 q) 10), Value.int (nI (N 3))])) = (r 6, Sum.inr (0, [Value.int (mc 1), cDt d (N 3) (A 10), Value.int (nI (N 3))]))
      rw [hA 10 (by omega) (by omega)]
    · show (r 7, Sum.inr (0, [Value.int (mc 2), cDt d (N 5) ((va_up (va_up A (100 + N 2) v) 9 q) 11), Value.int (nI (N 5))])) = (r 7, Sum.inr (0, [Value.int (mc 2), cDt d (N 5) (A 11), Value.int (nI (N 5))]))
      rw [hA 11 (by omega) (by omega)]
    · rfl
    · show (r 9, Sum.inr (3, [Value.ref ((va_up (va_up A (100 + N 2) v) 9 q) 8), Value.int (nI (N 1))])) = (r 9, Sum.inr (3, [Value.ref (A 8), Value.int (nI (N 1))]))
      rw [hA 8 (by omega) (by omega)]
    · rfl
    · rfl
  · show i = 9 ∨ i = 100 + N 2 ∨ cL N i
    have hi : cL (va_up N 2 (N 2 + 1)) i := hi
    unfold cL at hi ⊢
    have e2 : ((va_up N 2 (N 2 + 1))) 2 = N 2 + 1 := rfl
    have e3 : ((va_up N 2 (N 2 + 1))) 3 = N 3 := rfl
    have e5 : ((va_up N 2 (N 2 + 1))) 5 = N 5 := rfl
    rw [e2, e3, e5] at hi
    omega
  · obtain ⟨n2, n3, -, n5, -⟩ := hN
    by_cases c9 : i = 9
    · subst c9
      rw [va_up_self]
      show Sum.inl (G.2 5, lcap (N 2 + 1), Sum.inr (Sum.inr (Sum.inr (Sum.inr (cGa (va_up (va_up A (100 + N 2) v) 9 q) 100 (N 2 + 1)))))) = _
      rw [cGa_up (A2 := (va_up (va_up A (100 + N 2) v) 9 q)) (fun k9 h9 => by rw [va_up_ne _ _ (show 100 + k9 ≠ 9 by omega), va_up_ne _ _ (show 100 + k9 ≠ 100 + N 2 by omega)]) (by rw [va_up_ne _ _ (show 100 + N 2 ≠ 9 by omega), va_up_self])]
    · rw [va_up_ne _ _ c9]
      by_cases cn : i = 100 + N 2
      · subst cn
        rw [va_up_self, cE_tag (by omega)]
        show Sum.inr (5, [Value.int (upd (T 7) (N 2) ow (N 2)), Value.int (upd (T 8) (N 2) va (N 2)), Value.int (upd (T 9) (N 2) (-1) (N 2)), Value.int (upd (T 10) (N 2) 0 (N 2))]) = _
        rw [upd_at, upd_at, upd_at, upd_at]
      · rw [va_up_ne _ _ cn]
        have hiN : cL N i := by
          have hi : cL (va_up N 2 (N 2 + 1)) i := hi
          unfold cL at hi ⊢
          have e2 : ((va_up N 2 (N 2 + 1))) 2 = N 2 + 1 := rfl
          have e3 : ((va_up N 2 (N 2 + 1))) 3 = N 3 := rfl
          have e5 : ((va_up N 2 (N 2 + 1))) 5 = N 5 := rfl
          rw [e2, e3, e5] at hi
          omega
        have hAo : ∀ j, j ≠ 9 → j ≠ 100 + N 2 → (va_up (va_up A (100 + N 2) v) 9 q) j = A j := fun j a b => by rw [va_up_ne _ _ a, va_up_ne _ _ b]
        refine cE_eq hiN ⟨by omega, by omega, by omega⟩ (fun _ => ⟨rfl, rfl, rfl⟩) (fun _ => ⟨rfl, rfl⟩) ?_ ?_ ?_ (fun j h h2 => ⟨upd_no (by omega), upd_no (by omega), upd_no (by omega), upd_no (by omega)⟩) (fun _ _ _ => ⟨rfl, rfl, rfl, rfl, rfl, rfl⟩) (fun j h h2 => hAo _ (by omega) (by omega)) (fun j _ _ => ⟨va_up_ne _ _ (by omega), by rw [va_up_ne _ _ (show 20 + j ≠ 10 by omega), va_up_ne _ _ (show 20 + j ≠ 9 by omega), va_up_ne _ _ (show 20 + j ≠ 8 by omega), va_up_ne _ _ (show 20 + j ≠ 7 by omega)]⟩)
        · exact fun h => (c9 h).elim
        · refine fun _ => ⟨rfl, funext fun k9 => ?_⟩
          by_cases c : k9 < N 3
          · rw [cGa_p c, cGa_p c, hAo _ (by omega) (by omega)]
          · rw [cGa, cGa, if_neg c, if_neg c]
        · refine fun _ => ⟨rfl, funext fun k9 => ?_⟩
          by_cases c : k9 < N 5
          · rw [cGa_p c, cGa_p c, hAo _ (by omega) (by omega)]
          · rw [cGa, cGa, if_neg c, if_neg c]
  · exact hC.2 q9 hq9
theorem sC_adda {G : zG} {d : Nat} {r A : Nat → Nat} {mc : Nat → Int32} {g : Nat → Nat → Int32} {N : Nat → Nat} {T : Nat → Nat → Int32} {w w1 : va_W} {D0 : Nat → Prop} {ve li va : Int32} {bh bo : Bool} {k v q : Nat} (hC : sCQ G d r A mc g N T w) (hN : sSm N) (hD : va_D D0 w) (hd : ¬ D0 d) (hlt : N 3 < 10) (hk : 12 ≤ k) (hw : w[k]? = some (v, .inr (1, [.int ve, .int li, .int (zb bh), .int va, .int (zb bo), .int (T 16 (N 3))]))) (hf : ∀ i, cL N i → A i ≠ v) (hz : zAd G w w1 6 (r 6) (if N 3 = 0 then d else A 10) (N 3) v q (cGa A 200 (N 3))) : ∃ (A2 : Nat → Nat) (mc2 : Nat → Int32), sCQ G d r A2 mc2 g (va_up N 3 (N 3 + 1)) (va_up (va_up (va_up (va_up (va_up T 11 (upd (T 11) (N 3) ve)) 12 (upd (T 12) (N 3) li)) 13 (upd (T 13) (N 3) (zb bh))) 14 (upd (T 14) (N 3) va)) 15 (upd (T 15) (N 3) (zb bo))) w1 ∧ A2 (200 + N 3) = v := by
  have h1 := hC.1.role (P2 := fun i => i = 200 + N 3 ∨ cL N i) (i0 := 200 + N 3) hk hw hf (fun _ h => h)
  have hA9 : (va_up A (200 + N 3) v) 10 = A 10 := by
    rw [va_up_ne _ _ (show 10 ≠ 200 + N 3 by omega)]
  obtain ⟨mz, h2⟩ := h1.lst (P2 := fun i => i = 10 ∨ i = 200 + N 3 ∨ cL N i) (ri := 10) hD (by omega) hz (by
    by_cases c : N 3 = 0
    · rw [if_pos c]
      exact Or.inr ⟨fun k9 y9 h9 => hd (hD.2 k9 _ h9), c⟩
    · rw [if_neg c, hA9]
      exact Or.inl ⟨Or.inr (zL_l10 (Nat.pos_of_ne_zero c)), rfl⟩) (fun _ h => h)
  refine ⟨(va_up (va_up A (200 + N 3) v) 10 q), (fun j => if j = 1 then mz else mc j), ⟨h2.cg (fun j hj => ?_) (fun i hi => ?_) (fun i hi => rfl) (fun i hi => ?_), fun q9 hq9 => ?_⟩, by rw [va_up_ne _ _ (show 200 + N 3 ≠ 10 by omega), va_up_self]⟩
  · have hA : ∀ i, i < 12 → i ≠ 10 → (va_up (va_up A (200 + N 3) v) 10 q) i = A i := fun i h9 hi => by rw [va_up_ne _ _ hi, va_up_ne _ _ (show i ≠ 200 + N 3 by omega)]
    have hv : cGa (va_up (va_up A (200 + N 3) v) 10 q) 0 8 = cGa A 0 8 := funext fun k9 => by
      by_cases c : k9 < 8
      · rw [cGa_p c, cGa_p c, hA _ (by omega) (by omega)]
      · rw [cGa, cGa, if_neg c, if_neg c]
    refine z12 (P := fun j => cX G d r (va_up (va_up A (200 + N 3) v) 10 q) (fun j => if j = 1 then mz else mc j) (va_up N 3 (N 3 + 1)) (va_up (va_up (va_up (va_up (va_up T 11 (upd (T 11) (N 3) ve)) 12 (upd (T 12) (N 3) li)) 13 (upd (T 13) (N 3) (zb bh))) 14 (upd (T 14) (N 3) va)) 15 (upd (T 15) (N 3) (zb bo))) j = if j = 6 then (r 6, .inr (0, [.int mz, .ref q, .int (nI (N 3 + 1))])) else cX G d r A mc N T j) ⟨?_, ?_, ?_, ?_, ?_, ?_, ?_, ?_, ?_, ?_, ?_, ?_⟩ hj
    · rfl
    · show (r 1, Sum.inl (G.2 4, 8, Sum.inr (Sum.inr (Sum.inr (Sum.inr (cGa (va_up (va_up A (200 + N 3) v) 10 q) 0 8)))))) = (r 1, Sum.inl (G.2 4, 8, Sum.inr (Sum.inr (Sum.inr (Sum.inr (cGa A 0 8))))))
      rw [hv]
    · rfl
    · rfl
    · rfl
    · show (r 5, Sum.inr (0, [Value.int (mc 0), cDt d (N 2) ((va_up (va_up A (200 + N 3) v) 10 q) 9), Value.int (nI (N 2))])) = (r 5, Sum.inr (0, [Value.int (mc 0), cDt d (N 2) (A 9), Value.int (nI (N 2))]))
      rw [hA 9 (by omega) (by omega)]
    · show (r 6, Sum.inr (0, [Value.int mz, cDt d (N 3 + 1) ((va_up (va_up A (200 + N 3) v) 10 q) 10), Value.int (nI (N 3 + 1))])) = (r 6, Sum.inr (0, [Value.int mz, Value.ref q, Value.int (nI (N 3 + 1))]))
      rw [cDt_p (Nat.succ_pos _), va_up_self]
    · show (r 7, Sum.inr (0, [Value.int (mc 2), cDt d (N 5) ((va_up (va_up A (200 + N 3) v) 10 q) 11), Value.int (nI (N 5))])) = (r 7, Sum.inr (0, [Value.int (mc 2), cDt d (N 5) (A 11), Value.int (nI (N 5))]))
      rw [hA 11 (by omega) (by omega)]
    · rfl
    · show (r 9, Sum.inr (3, [Value.ref ((va_up (va_up A (200 + N 3) v) 10 q) 8), Value.int (nI (N 1))])) = (r 9, Sum.inr (3, [Value.ref (A 8), Value.int (nI (N 1))]))
      rw [hA 8 (by omega) (by omega)]
    · rfl
    · rfl
  · show i = 10 ∨ i = 200 + N 3 ∨ cL N i
    have hi : cL (va_up N 3 (N 3 + 1)) i := hi
    unfold cL at hi ⊢
    have e2 : ((va_up N 3 (N 3 + 1))) 2 = N 2 := rfl
    have e3 : ((va_up N 3 (N 3 + 1))) 3 = N 3 + 1 := rfl
    have e5 : ((va_up N 3 (N 3 + 1))) 5 = N 5 := rfl
    rw [e2, e3, e5] at hi
    omega
  · obtain ⟨n2, n3, -, n5, -⟩ := hN
    by_cases c9 : i = 10
    · subst c9
      rw [va_up_self]
      show Sum.inl (G.2 5, lcap (N 3 + 1), Sum.inr (Sum.inr (Sum.inr (Sum.inr (cGa (va_up (va_up A (200 + N 3) v) 10 q) 200 (N 3 + 1)))))) = _
      rw [cGa_up (A2 := (va_up (va_up A (200 + N 3) v) 10 q)) (fun k9 h9 => by rw [va_up_ne _ _ (show 200 + k9 ≠ 10 by omega), va_up_ne _ _ (show 200 + k9 ≠ 200 + N 3 by omega)]) (by rw [va_up_ne _ _ (show 200 + N 3 ≠ 10 by omega), va_up_self])]
    · rw [va_up_ne _ _ c9]
      by_cases cn : i = 200 + N 3
      · subst cn
        rw [va_up_self, cE_alarm (by omega)]
        show Sum.inr (1, [Value.int (upd (T 11) (N 3) ve (N 3)), Value.int (upd (T 12) (N 3) li (N 3)), Value.int (upd (T 13) (N 3) (zb bh) (N 3)), Value.int (upd (T 14) (N 3) va (N 3)), Value.int (upd (T 15) (N 3) (zb bo) (N 3)), Value.int (T 16 (N 3))]) = _
        rw [upd_at, upd_at, upd_at, upd_at, upd_at]
      · rw [va_up_ne _ _ cn]
        have hiN : cL N i := by
          have hi : cL (va_up N 3 (N 3 + 1)) i := hi
          unfold cL at hi ⊢
          have e2 : ((va_up N 3 (N 3 + 1))) 2 = N 2 := rfl
          have e3 : ((va_up N 3 (N 3 + 1))) 3 = N 3 + 1 := rfl
          have e5 : ((va_up N 3 (N 3 + 1))) 5 = N 5 := rfl
          rw [e2, e3, e5] at hi
          omega
        have hAo : ∀ j, j ≠ 10 → j ≠ 200 + N 3 → (va_up (va_up A (200 + N 3) v) 10 q) j = A j := fun j a b => by rw [va_up_ne _ _ a, va_up_ne _ _ b]
        refine cE_eq hiN ⟨by omega, by omega, by omega⟩ (fun _ => ⟨rfl, rfl, rfl⟩) (fun _ => ⟨rfl, rfl⟩) ?_ ?_ ?_ (fun _ _ _ => ⟨rfl, rfl, rfl, rfl⟩) (fun j h h2 => ⟨upd_no (by omega), upd_no (by omega), upd_no (by omega), upd_no (by omega), upd_no (by omega), rfl⟩) (fun j h h2 => hAo _ (by omega) (by omega)) (fun j _ _ => ⟨va_up_ne _ _ (by omega), by rw [va_up_ne _ _ (show 20 + j ≠ 15 by omega), va_up_ne _ _ (show 20 + j ≠ 14 by omega), va_up_ne _ _ (show 20 + j ≠ 13 by omega), va_up_ne _ _ (show 20 + j ≠ 12 by omega), va_up_ne _ _ (show 20 + j ≠ 11 by omega)]⟩)
        · refine fun _ => ⟨rfl, funext fun k9 => ?_⟩
          by_cases c : k9 < N 2
          · rw [cGa_p c, cGa_p c, hAo _ (by omega) (by omega)]
          · rw [cGa, cGa, if_neg c, if_neg c]
        · exact fun h => (c9 h).elim
        · refine fun _ => ⟨rfl, funext fun k9 => ?_⟩
          by_cases c : k9 < N 5
          · rw [cGa_p c, cGa_p c, hAo _ (by omega) (by omega)]
          · rw [cGa, cGa, if_neg c, if_neg c]
  · exact hC.2 q9 hq9
theorem sC_addm {G : zG} {d : Nat} {r A : Nat → Nat} {mc : Nat → Int32} {g : Nat → Nat → Int32} {N : Nat → Nat} {T : Nat → Nat → Int32} {w w1 : va_W} {D0 : Nat → Prop} {x4 k4 ln : Nat} {tx : Nat → Int32} {k v q : Nat} (hC : sCQ G d r A mc g N T w) (hN : sSm N) (hD : va_D D0 w) (hd : ¬ D0 d) (hlt : N 5 < 60) (hk : 12 ≤ k) (hw : w[k]? = some (v, .inr (4, [.ref x4]))) (hf : ∀ i, cL N i → A i ≠ v) (hk4 : 12 ≤ k4) (hw4 : w[k4]? = some (x4, .inl (G.2 0, sLen tx ln, .inl (sSgn tx ln)))) (hf4 : ∀ i, cL N i → A i ≠ x4) (hne : x4 ≠ v) (hz : zAd G w w1 7 (r 7) (if N 5 = 0 then d else A 11) (N 5) v q (cGa A 300 (N 5))) : ∃ (A2 : Nat → Nat) (mc2 : Nat → Int32), sCQ G d r A2 mc2 g (va_up (va_up N (20 + N 5) ln) 5 (N 5 + 1)) (va_up T (20 + N 5) tx) w1 ∧ A2 (300 + N 5) = v := by
  have h0 := hC.1.role (P2 := fun i => i = 400 + N 5 ∨ cL N i) (i0 := 400 + N 5) hk4 hw4 hf4 (fun _ h => h)
  have h1 := h0.role (P2 := fun i => i = 300 + N 5 ∨ i = 400 + N 5 ∨ cL N i) (i0 := 300 + N 5) hk hw (fun i hi => by
    by_cases c : i = 400 + N 5
    · rw [c, va_up_self]; exact hne
    · rw [va_up_ne _ _ c]; exact hf i (hi.resolve_left c)) (fun _ h => h)
  have hA9 : (va_up (va_up A (400 + N 5) x4) (300 + N 5) v) 11 = A 11 := by
    rw [va_up_ne _ _ (show 11 ≠ 300 + N 5 by omega), va_up_ne _ _ (show 11 ≠ 400 + N 5 by omega)]
  obtain ⟨mz, h2⟩ := h1.lst (P2 := fun i => i = 11 ∨ i = 300 + N 5 ∨ i = 400 + N 5 ∨ cL N i) (ri := 11) hD (by omega) hz (by
    by_cases c : N 5 = 0
    · rw [if_pos c]
      exact Or.inr ⟨fun k9 y9 h9 => hd (hD.2 k9 _ h9), c⟩
    · rw [if_neg c, hA9]
      exact Or.inl ⟨Or.inr (Or.inr (zL_l11 (Nat.pos_of_ne_zero c))), rfl⟩) (fun _ h => h)
  refine ⟨(va_up (va_up (va_up A (400 + N 5) x4) (300 + N 5) v) 11 q), (fun j => if j = 2 then mz else mc j), ⟨h2.cg (fun j hj => ?_) (fun i hi => ?_) (fun i hi => rfl) (fun i hi => ?_), fun q9 hq9 => ?_⟩, by rw [va_up_ne _ _ (show 300 + N 5 ≠ 11 by omega), va_up_self]⟩
  · have hA : ∀ i, i < 12 → i ≠ 11 → (va_up (va_up (va_up A (400 + N 5) x4) (300 + N 5) v) 11 q) i = A i := fun i h9 hi => by rw [va_up_ne _ _ hi, va_up_ne _ _ (show i ≠ 300 + N 5 by omega), va_up_ne _ _ (show i ≠ 400 + N 5 by omega)]
    have hv : cGa (va_up (va_up (va_up A (400 + N 5) x4) (300 + N 5) v) 11 q) 0 8 = cGa A 0 8 := funext fun k9 => by
      by_cases c : k9 < 8
      · rw [cGa_p c, cGa_p c, hA _ (by omega) (by omega)]
      · rw [cGa, cGa, if_neg c, if_neg c]
    refine z12 (P := fun j => cX G d r (va_up (va_up (va_up A (400 + N 5) x4) (300 + N 5) v) 11 q) (fun j => if j = 2 then mz else mc j) (va_up (va_up N (20 + N 5) ln) 5 (N 5 + 1)) (va_up T (20 + N 5) tx) j = if j = 7 then (r 7, .inr (0, [.int mz, .ref q, .int (nI (N 5 + 1))])) else cX G d r A mc N T j) ⟨?_, ?_, ?_, ?_, ?_, ?_, ?_, ?_, ?_, ?_, ?_, ?_⟩ hj
    · show (r 0, Sum.inr (7, [Value.ref (r 1), Value.ref (r 2), Value.ref (r 3), Value.ref (r 4), Value.ref (r 5), Value.ref (r 6), Value.ref (r 7), Value.ref (r 8), Value.ref (r 9), Value.ref (r 10), Value.int (nI ((va_up (va_up N (20 + N 5) ln) 5 (N 5 + 1)) 0)), Value.int ((va_up T (20 + N 5) tx) 19 0), Value.int ((va_up T (20 + N 5) tx) 19 1), Value.int (nI ((va_up (va_up N (20 + N 5) ln) 5 (N 5 + 1)) 6))])) = (r 0, Sum.inr (7, [Value.ref (r 1), Value.ref (r 2), Value.ref (r 3), Value.ref (r 4), Value.ref (r 5), Value.ref (r 6), Value.ref (r 7), Value.ref (r 8), Value.ref (r 9), Value.ref (r 10), Value.int (nI (N 0)), Value.int (T 19 0), Value.int (T 19 1), Value.int (nI (N 6))]))
      rw [show ((va_up (va_up N (20 + N 5) ln) 5 (N 5 + 1))) 0 = N 0 from by rw [va_up_ne _ _ (show 0 ≠ 5 by omega), va_up_ne _ _ (show 0 ≠ 20 + N 5 by omega)], show ((va_up (va_up N (20 + N 5) ln) 5 (N 5 + 1))) 6 = N 6 from by rw [va_up_ne _ _ (show 6 ≠ 5 by omega), va_up_ne _ _ (show 6 ≠ 20 + N 5 by omega)], show ((va_up T (20 + N 5) tx)) 19 = T 19 from va_up_ne _ _ (show 19 ≠ 20 + N 5 by omega)]
    · show (r 1, Sum.inl (G.2 4, 8, Sum.inr (Sum.inr (Sum.inr (Sum.inr (cGa (va_up (va_up (va_up A (400 + N 5) x4) (300 + N 5) v) 11 q) 0 8)))))) = (r 1, Sum.inl (G.2 4, 8, Sum.inr (Sum.inr (Sum.inr (Sum.inr (cGa A 0 8))))))
      rw [hv]
    · show (r 2, Sum.inl (G.2 0, 3, Sum.inl ((va_up T (20 + N 5) tx) 6))) = (r 2, Sum.inl (G.2 0, 3, Sum.inl (T 6)))
      rw [show ((va_up T (20 + N 5) tx)) 6 = T 6 from va_up_ne _ _ (show 6 ≠ 20 + N 5 by omega)]
    · show (r 3, Sum.inl (G.2 2, 9, Sum.inl ((va_up T (20 + N 5) tx) 2))) = (r 3, Sum.inl (G.2 2, 9, Sum.inl (T 2)))
      rw [show ((va_up T (20 + N 5) tx)) 2 = T 2 from va_up_ne _ _ (show 2 ≠ 20 + N 5 by omega)]
    · show (r 4, Sum.inl (G.2 0, 9, Sum.inl ((va_up T (20 + N 5) tx) 1))) = (r 4, Sum.inl (G.2 0, 9, Sum.inl (T 1)))
      rw [show ((va_up T (20 + N 5) tx)) 1 = T 1 from va_up_ne _ _ (show 1 ≠ 20 + N 5 by omega)]
    · show (r 5, Sum.inr (0, [Value.int (mc 0), cDt d ((va_up (va_up N (20 + N 5) ln) 5 (N 5 + 1)) 2) ((va_up (va_up (va_up A (400 + N 5) x4) (300 + N 5) v) 11 q) 9), Value.int (nI ((va_up (va_up N (20 + N 5) ln) 5 (N 5 + 1)) 2))])) = (r 5, Sum.inr (0, [Value.int (mc 0), cDt d (N 2) (A 9), Value.int (nI (N 2))]))
      rw [show ((va_up (va_up N (20 + N 5) ln) 5 (N 5 + 1))) 2 = N 2 from by rw [va_up_ne _ _ (show 2 ≠ 5 by omega), va_up_ne _ _ (show 2 ≠ 20 + N 5 by omega)], hA 9 (by omega) (by omega)]
    · show (r 6, Sum.inr (0, [Value.int (mc 1), cDt d ((va_up (va_up N (20 + N 5) ln) 5 (N 5 + 1)) 3) ((va_up (va_up (va_up A (400 + N 5) x4) (300 + N 5) v) 11 q) 10), Value.int (nI ((va_up (va_up N (20 + N 5) ln) 5 (N 5 + 1)) 3))])) = (r 6, Sum.inr (0, [Value.int (mc 1), cDt d (N 3) (A 10), Value.int (nI (N 3))]))
      rw [show ((va_up (va_up N (20 + N 5) ln) 5 (N 5 + 1))) 3 = N 3 from by rw [va_up_ne _ _ (show 3 ≠ 5 by omega), va_up_ne _ _ (show 3 ≠ 20 + N 5 by omega)], hA 10 (by omega) (by omega)]
    · show (r 7, Sum.inr (0, [Value.int mz, cDt d ((va_up (va_up N (20 + N 5) ln) 5 (N 5 + 1)) 5) ((va_up (va_up (va_up A (400 + N 5) x4) (300 + N 5) v) 11 q) 11), Value.int (nI ((va_up (va_up N (20 + N 5) ln) 5 (N 5 + 1)) 5))])) = (r 7, Sum.inr (0, [Value.int mz, Value.ref q, Value.int (nI (N 5 + 1))]))
      rw [show ((va_up (va_up N (20 + N 5) ln) 5 (N 5 + 1))) 5 = N 5 + 1 from va_up_self _ _ _, cDt_p (Nat.succ_pos _), va_up_self]
    · show (r 8, Sum.inl (G.2 0, 60, Sum.inl ((va_up T (20 + N 5) tx) 18))) = (r 8, Sum.inl (G.2 0, 60, Sum.inl (T 18)))
      rw [show ((va_up T (20 + N 5) tx)) 18 = T 18 from va_up_ne _ _ (show 18 ≠ 20 + N 5 by omega)]
    · show (r 9, Sum.inr (3, [Value.ref ((va_up (va_up (va_up A (400 + N 5) x4) (300 + N 5) v) 11 q) 8), Value.int (nI ((va_up (va_up N (20 + N 5) ln) 5 (N 5 + 1)) 1))])) = (r 9, Sum.inr (3, [Value.ref (A 8), Value.int (nI (N 1))]))
      rw [show ((va_up (va_up N (20 + N 5) ln) 5 (N 5 + 1))) 1 = N 1 from by rw [va_up_ne _ _ (show 1 ≠ 5 by omega), va_up_ne _ _ (show 1 ≠ 20 + N 5 by omega)], hA 8 (by omega) (by omega)]
    · show (r 10, Sum.inr (2, [Value.ref (r 11), Value.int (nI ((va_up (va_up N (20 + N 5) ln) 5 (N 5 + 1)) 4))])) = (r 10, Sum.inr (2, [Value.ref (r 11), Value.int (nI (N 4))]))
      rw [show ((va_up (va_up N (20 + N 5) ln) 5 (N 5 + 1))) 4 = N 4 from by rw [va_up_ne _ _ (show 4 ≠ 5 by omega), va_up_ne _ _ (show 4 ≠ 20 + N 5 by omega)]]
    · show (r 11, Sum.inl (G.2 3, 40, Sum.inl ((va_up T (20 + N 5) tx) 17))) = (r 11, Sum.inl (G.2 3, 40, Sum.inl (T 17)))
      rw [show ((va_up T (20 + N 5) tx)) 17 = T 17 from va_up_ne _ _ (show 17 ≠ 20 + N 5 by omega)]
  · show i = 11 ∨ i = 300 + N 5 ∨ i = 400 + N 5 ∨ cL N i
    have e2 : ((va_up (va_up N (20 + N 5) ln) 5 (N 5 + 1))) 2 = N 2 := by rw [va_up_ne _ _ (show 2 ≠ 5 by omega), va_up_ne _ _ (show 2 ≠ 20 + N 5 by omega)]
    have e3 : ((va_up (va_up N (20 + N 5) ln) 5 (N 5 + 1))) 3 = N 3 := by rw [va_up_ne _ _ (show 3 ≠ 5 by omega), va_up_ne _ _ (show 3 ≠ 20 + N 5 by omega)]
    have e5 : ((va_up (va_up N (20 + N 5) ln) 5 (N 5 + 1))) 5 = N 5 + 1 := va_up_self _ _ _
    unfold cL at hi ⊢
    rw [e2, e3, e5] at hi
    omega
  · obtain ⟨n2, n3, -, n5, -⟩ := hN
    by_cases c9 : i = 11
    · subst c9
      rw [va_up_self]
      show Sum.inl (G.2 5, lcap (((va_up (va_up N (20 + N 5) ln) 5 (N 5 + 1))) 5), Sum.inr (Sum.inr (Sum.inr (Sum.inr (cGa (va_up (va_up (va_up A (400 + N 5) x4) (300 + N 5) v) 11 q) 300 (((va_up (va_up N (20 + N 5) ln) 5 (N 5 + 1))) 5)))))) = _
      rw [show ((va_up (va_up N (20 + N 5) ln) 5 (N 5 + 1))) 5 = N 5 + 1 from va_up_self _ _ _, cGa_up (A2 := (va_up (va_up (va_up A (400 + N 5) x4) (300 + N 5) v) 11 q)) (fun k9 h9 => by rw [va_up_ne _ _ (show 300 + k9 ≠ 11 by omega), va_up_ne _ _ (show 300 + k9 ≠ 300 + N 5 by omega), va_up_ne _ _ (show 300 + k9 ≠ 400 + N 5 by omega)]) (by rw [va_up_ne _ _ (show 300 + N 5 ≠ 11 by omega), va_up_self])]
    · rw [va_up_ne _ _ c9]
      by_cases cn : i = 300 + N 5
      · subst cn
        rw [va_up_self, cE_msg (by omega)]
        rw [va_up_ne _ _ (show 400 + N 5 ≠ 11 by omega), va_up_ne _ _ (show 400 + N 5 ≠ 300 + N 5 by omega), va_up_self]
      · rw [va_up_ne _ _ cn]
        by_cases c4 : i = 400 + N 5
        · subst c4
          rw [va_up_self, cE_say]
          rw [show ((va_up (va_up N (20 + N 5) ln) 5 (N 5 + 1))) (20 + N 5) = ln from by rw [va_up_ne _ _ (show 20 + N 5 ≠ 5 by omega), va_up_self], show ((va_up T (20 + N 5) tx)) (20 + N 5) = tx from va_up_self _ _ _]
        · rw [va_up_ne _ _ c4]
          have e2 : ((va_up (va_up N (20 + N 5) ln) 5 (N 5 + 1))) 2 = N 2 := by rw [va_up_ne _ _ (show 2 ≠ 5 by omega), va_up_ne _ _ (show 2 ≠ 20 + N 5 by omega)]
          have e3 : ((va_up (va_up N (20 + N 5) ln) 5 (N 5 + 1))) 3 = N 3 := by rw [va_up_ne _ _ (show 3 ≠ 5 by omega), va_up_ne _ _ (show 3 ≠ 20 + N 5 by omega)]
          have e5 : ((va_up (va_up N (20 + N 5) ln) 5 (N 5 + 1))) 5 = N 5 + 1 := va_up_self _ _ _
          have hiN : cL N i := by
            unfold cL at hi ⊢
            rw [e2, e3, e5] at hi
            omega
          have hAo : ∀ j, j ≠ 11 → j ≠ 300 + N 5 → j ≠ 400 + N 5 → (va_up (va_up (va_up A (400 + N 5) x4) (300 + N 5) v) 11 q) j = A j := fun j a b c => by rw [va_up_ne _ _ a, va_up_ne _ _ b, va_up_ne _ _ c]
          refine cE_eq hiN ⟨by omega, by omega, by omega⟩ (fun _ => ⟨by rw [va_up_ne _ _ (show 3 ≠ 20 + N 5 by omega)], by rw [va_up_ne _ _ (show 4 ≠ 20 + N 5 by omega)], by rw [va_up_ne _ _ (show 5 ≠ 20 + N 5 by omega)]⟩) (fun _ => ⟨by rw [show ((va_up (va_up N (20 + N 5) ln) 5 (N 5 + 1))) 1 = N 1 from by rw [va_up_ne _ _ (show 1 ≠ 5 by omega), va_up_ne _ _ (show 1 ≠ 20 + N 5 by omega)]], rfl⟩) (fun _ => ⟨e2, funext fun k9 => ?_⟩) (fun _ => ⟨e3, funext fun k9 => ?_⟩) (fun h => (c9 h).elim) (fun _ _ _ => ⟨by rw [va_up_ne _ _ (show 7 ≠ 20 + N 5 by omega)], by rw [va_up_ne _ _ (show 8 ≠ 20 + N 5 by omega)], by rw [va_up_ne _ _ (show 9 ≠ 20 + N 5 by omega)], by rw [va_up_ne _ _ (show 10 ≠ 20 + N 5 by omega)]⟩) (fun _ _ _ => ⟨by rw [va_up_ne _ _ (show 11 ≠ 20 + N 5 by omega)], by rw [va_up_ne _ _ (show 12 ≠ 20 + N 5 by omega)], by rw [va_up_ne _ _ (show 13 ≠ 20 + N 5 by omega)], by rw [va_up_ne _ _ (show 14 ≠ 20 + N 5 by omega)], by rw [va_up_ne _ _ (show 15 ≠ 20 + N 5 by omega)], by rw [va_up_ne _ _ (show 16 ≠ 20 + N 5 by omega)]⟩) (fun j h h2 => hAo _ (by omega) (by omega) (by omega)) (fun j h h2 => ⟨by rw [va_up_ne _ _ (show 20 + j ≠ 5 by omega), va_up_ne _ _ (show 20 + j ≠ 20 + N 5 by omega)], va_up_ne _ _ (by omega)⟩)
          · by_cases c : k9 < N 2
            · rw [cGa_p c, cGa_p c, hAo _ (by omega) (by omega) (by omega)]
            · rw [cGa, cGa, if_neg c, if_neg c]
          · by_cases c : k9 < N 3
            · rw [cGa_p c, cGa_p c, hAo _ (by omega) (by omega) (by omega)]
            · rw [cGa, cGa, if_neg c, if_neg c]
  · rw [show ((va_up (va_up N (20 + N 5) ln) 5 (N 5 + 1))) 1 = N 1 from by rw [va_up_ne _ _ (show 1 ≠ 5 by omega), va_up_ne _ _ (show 1 ≠ 20 + N 5 by omega)]] at hq9
    rw [show ((va_up T (20 + N 5) tx)) 0 = T 0 from va_up_ne _ _ (show 0 ≠ 20 + N 5 by omega)]
    exact hC.2 q9 hq9
