/-! posting, and the signs of a message -/
theorem sMeant_step {t : Nat → Int32} {k : Nat} : sMeantTo t (k + 1) = if sCalls t k then t (k + 1) - 48 else sMeantTo t k := rfl
def sPut (f g : Nat → Int32) (a n : Nat) : Nat → Int32 := fun k => if a ≤ k ∧ k < a + n then g (k - a) else f k
theorem sPut_0 {f g : Nat → Int32} {a : Nat} : sPut f g a 0 = f := by
  funext k
  simp only [sPut]
  rw [if_neg (by omega)]
theorem sPut_s {f g : Nat → Int32} {a n : Nat} : upd (sPut f g a n) (a + n) (g n) = sPut f g a (n + 1) := by
  funext k
  by_cases e : k = a + n
  · subst e
    simp only [upd, if_true, sPut]
    rw [if_pos (by omega)]
    congr 1
    omega
  · simp only [upd, e, if_false, sPut]
    by_cases h : a ≤ k ∧ k < a + n
    · rw [if_pos h, if_pos (by omega)]
    · rw [if_neg h, if_neg (by omega)]
theorem sIx40 {a i : Nat} : (40 * nI a) + nI i = nI (40 * a + i) := by
  rw [show (40 : Int32) = nI 40 from rfl, pk_mul, nI_add]
theorem sPost0_N {N : Nat → Nat} {T : Nat → Nat → Int32} {th : Int32} : (nPost0 N T th).1 0 = N 0 ∧ (nPost0 N T th).1 1 = N 1 ∧ (nPost0 N T th).1 2 = N 2 ∧ (nPost0 N T th).1 3 = N 3 ∧ (nPost0 N T th).1 4 = 0 ∧ (nPost0 N T th).1 5 = N 5 + 1 ∧ (nPost0 N T th).1 6 = (if th = -1 then N 6 + 1 else N 6) ∧ (nPost0 N T th).1 (20 + N 5) = N 4 ∧ ∀ m, m ≠ N 5 → (nPost0 N T th).1 (20 + m) = N (20 + m) := by
  unfold nPost0
  refine ⟨?_, ?_, ?_, ?_, ?_, ?_, ?_, ?_, fun m hm => ?_⟩
  · simp only [va_up]; rw [if_neg (by omega), if_neg (by omega), if_neg (by omega)]; split <;> simp [va_up]
  · simp only [va_up]; rw [if_neg (by omega), if_neg (by omega), if_neg (by omega)]; split <;> simp [va_up]
  · simp only [va_up]; rw [if_neg (by omega), if_neg (by omega), if_neg (by omega)]; split <;> simp [va_up]
  · simp only [va_up]; rw [if_neg (by omega), if_neg (by omega), if_neg (by omega)]; split <;> simp [va_up]
  · simp [va_up]
  · simp [va_up]
  · simp only [va_up]; rw [if_neg (by omega), if_neg (by omega), if_neg (by omega)]; split <;> simp [va_up]
  · simp only [va_up]; rw [if_neg (by omega), if_neg (by omega), if_pos trivial]
  · simp only [va_up]; rw [if_neg (by omega), if_neg (by omega), if_neg (by omega)]; split
    · simp [va_up, z20_6]
    · rfl
theorem sPost0_T {N : Nat → Nat} {T : Nat → Nat → Int32} {th : Int32} : (∀ k, k < 20 → k ≠ 18 → (nPost0 N T th).2 k = T k) ∧ (nPost0 N T th).2 18 = (if th = -1 then upd (T 18) (N 6) (-1) else T 18) ∧ (nPost0 N T th).2 (20 + N 5) = T 17 ∧ ∀ m, m ≠ N 5 → (nPost0 N T th).2 (20 + m) = T (20 + m) := by
  unfold nPost0
  refine ⟨fun k hk h18 => ?_, ?_, ?_, fun m hm => ?_⟩
  · simp only [va_up]; rw [if_neg (by omega)]; split
    · simp [va_up, h18]
    · rfl
  · simp only [va_up]; rw [if_neg (by omega)]; split <;> simp [va_up]
  · simp [va_up]
  · simp only [va_up]; rw [if_neg (by omega)]; split
    · simp [va_up, z20_18]
    · rfl
theorem sMR_post0 {N : Nat → Nat} {T : Nat → Nat → Int32} {E : Nat → Int64} {hg ag mn sd tk : Nat → Int32} {th : Int32} (h : sMR N T E hg ag mn sd tk) (h40 : N 4 ≤ 40) (hms : ∀ m, m < N 5 → N (20 + m) ≤ 40) : sMR (nPost0 N T th).1 (nPost0 N T th).2 E hg ag (upd mn (N 5) (nI (N 4))) (sPut sd (T 17) (40 * N 5) (N 4)) (if th = -1 then upd tk (N 6) (-1) else tk) := by
  obtain ⟨h1, h2, h3, h4, h5⟩ := h
  obtain ⟨n0, n1, n2, n3, n4, n5, n6, n7, n8⟩ := sPost0_N (N := N) (T := T) (th := th)
  obtain ⟨t1, t2, t3, t4⟩ := sPost0_T (N := N) (T := T) (th := th)
  refine ⟨?_, ?_, ?_, ?_, ?_⟩
  · rw [t1 0 (by omega) (by omega), n1]; exact h1
  · intro t ht; rw [n2] at ht; rw [t1 8 (by omega) (by omega), t1 10 (by omega) (by omega)]; exact h2 t ht
  · intro t ht h0; rw [n2] at ht; rw [t1 10 (by omega) (by omega)] at h0; rw [t1 9 (by omega) (by omega)]; exact h3 t ht h0
  · intro m hm
    rw [n5] at hm
    by_cases e : m = N 5
    · subst e
      rw [n7, t3]
      refine ⟨by simp [upd], fun k hk => ?_⟩
      simp only [sPut]
      rw [if_pos (by omega)]
      congr 1
      omega
    · have hl := hms m (by omega)
      rw [n8 m e, t4 m e]
      refine ⟨by simp only [upd, e, if_false]; exact (h4 m (by omega)).1, fun k hk => ?_⟩
      simp only [sPut]
      rw [if_neg (by omega)]
      exact (h4 m (by omega)).2 k hk
  · intro t ht
    rw [n6] at ht
    rw [t2]
    by_cases e : th = -1
    · rw [if_pos e] at ht ⊢
      rw [if_pos e]
      by_cases e2 : t = N 6
      · simp [upd, e2]
      · simp only [upd, e2, if_false]
        exact h5 t (by omega)
    · rw [if_neg e] at ht ⊢
      rw [if_neg e]
      exact h5 t ht
theorem sMR_assign {N : Nat → Nat} {T : Nat → Nat → Int32} {E E1 : Nat → Int64} {hg ag mn sd tk : Nat → Int32} {th w : Int32} (h : sMR N T E hg ag mn sd tk) (hw : ¬ w = -1) (hE : sRE E1 ((sAssign N T th w).2 0) ((sAssign N T th w).1 1)) : sMR (sAssign N T th w).1 (sAssign N T th w).2 E1 hg ag mn sd (upd tk th.toNatClampNeg w) := by
  obtain ⟨h1, h2, h3, h4, h5⟩ := h
  have e : sAssign N T th w = sNote N (va_up T 18 (upd (T 18) th.toNatClampNeg w)) 5 w th := if_neg hw
  rw [e] at hE ⊢
  refine ⟨hE, h2, h3, sSD_keep h4 rfl (fun m => by simp [sNote, va_up, z20_0, z20_1, z20_18]) (fun m => by simp [sNote, va_up, z20_0, z20_1, z20_18]), ?_⟩
  intro t ht
  show upd tk th.toNatClampNeg w t = upd (T 18) th.toNatClampNeg w t
  by_cases e : t = th.toNatClampNeg
  · simp [upd, e]
  · simp only [upd, e, if_false]
    exact h5 t ht
theorem sPostX {N : Nat → Nat} {T : Nat → Nat → Int32} {th : Int32} {X : Nat → Nat} (h0 : X 0 = N 0) (h1 : X 1 = N 1) (h2 : X 2 = N 2) (h3 : X 3 = N 3) (h5 : X 5 = N 5 + 1) (h6 : X 6 = if th = -1 then N 6 + 1 else N 6) : ∀ k, k < 7 → va_up X 4 0 k = (nPost0 N T th).1 k := by
  obtain ⟨n0, n1, n2, n3, n4, n5, n6, -, -⟩ := sPost0_N (N := N) (T := T) (th := th)
  intro k hk
  match k, hk with
  | 0, _ => rw [n0]; exact h0
  | 1, _ => rw [n1]; exact h1
  | 2, _ => rw [n2]; exact h2
  | 3, _ => rw [n3]; exact h3
  | 4, _ => rw [n4]; rfl
  | 5, _ => rw [n5]; exact h5
  | 6, _ => rw [n6]; exact h6
theorem sMeant_vp {t : Nat → Int32} {n : Nat} (h : ¬ sMeant t n = -1) : vp_in (sMeant t n) 9 := sMeantTo_in.resolve_left h
theorem sLen_le {t : Nat → Int32} : ∀ {k : Nat}, sLen t k ≤ k
  | 0 => Nat.le_refl _
  | k + 1 => by
    have := sLen_le (t := t) (k := k)
    rw [sLen]
    split <;> omega
theorem sLen_s {t : Nat → Int32} {i : Nat} (h : sHi (t i) = false) : sLen t i + 1 = sLen t (i + 1) := by rw [sLen, if_neg (by rw [h]; decide)]
theorem sLen_p {t : Nat → Int32} {i : Nat} (h : sHi (t i) = true) (h2 : sHi (t (i + 1)) = false) : sLen t i + 1 = sLen t (i + 2) := by rw [← sLen_s h2, sLen, if_pos h]
theorem sSgn_s {t s : Nat → Int32} {i : Nat} (h : sHi (t i) = false) (hw : sW t i = false) (hs : ∀ j, j < sLen t i → s j = sSgn t i j) : ∀ j, j < sLen t (i + 1) → upd s (sLen t i) (t i) j = sSgn t (i + 1) j := by
  intro j hj
  rw [← sLen_s h] at hj
  rw [sSgn, if_neg (by rw [h]; decide), if_neg (by rw [hw]; decide)]
  by_cases e : j = sLen t i
  · simp [upd, e]
  · simp only [upd, e, if_false]
    exact hs j (by omega)
theorem sSgn_p {t s : Nat → Int32} {i : Nat} (h : sHi (t i) = true) (h2 : sHi (t (i + 1)) = false) (hs : ∀ j, j < sLen t i → s j = sSgn t i j) : ∀ j, j < sLen t (i + 2) → upd s (sLen t i) (sPair (t i) (t (i + 1))) j = sSgn t (i + 2) j := by
  intro j hj
  rw [← sLen_p h h2] at hj
  have e1 : sLen t (i + 1) = sLen t i := by rw [sLen, if_pos h]
  have e2 : sSgn t (i + 1) = sSgn t i := by rw [sSgn, if_pos h]
  rw [sSgn, if_neg (by rw [h2]; decide), if_pos (show sW t (i + 1) = true from h), e1, e2]
  by_cases e : j = sLen t i
  · simp [upd, e]
  · simp only [upd, e, if_false]
    exact hs j (by omega)
theorem sLo_hi {v : Int32} (h : sLo v = true) : sHi v = false := by
  simp only [sLo, sHi, Bool.and_eq_true, decide_eq_true_eq, Int32.le_iff_toInt_le, show (56320 : Int32).toInt = 56320 from by decide] at h ⊢
  rw [Bool.and_eq_false_iff]
  right
  rw [decide_eq_false_iff_not, show (56319 : Int32).toInt = 56319 from by decide]
  omega
theorem sG_at {t : Nat → Int32} : ∀ {n i : Nat}, sG t n = true → i < n → sLo (t i) = sW t i
  | 0, i, _, h => absurd h (Nat.not_lt_zero i)
  | n + 1, i, hg, h => by
    rw [sG, Bool.and_eq_true] at hg
    by_cases e : i = n
    · subst e
      exact of_decide_eq_true hg.2
    · exact sG_at hg.1 (by omega)
theorem sGood_hi {t : Nat → Int32} {n i : Nat} (h : sGood t n = true) (hi : i < n) (hh : sHi (t i) = true) : i + 1 < n ∧ sLo (t (i + 1)) = true := by
  simp only [sGood, Bool.and_eq_true, Bool.not_eq_true'] at h
  have h1 : i + 1 < n := by
    rcases Nat.lt_or_ge (i + 1) n with q | q
    · exact q
    · have : n = i + 1 := by omega
      subst this
      have := h.2
      rw [show sW t (i + 1) = sHi (t i) from rfl, hh] at this
      cases this
  exact ⟨h1, (sG_at h.1.1 h1).trans hh⟩
theorem sIdx {a : Int32} {m i : Nat} (e : a = nI m) : (40 * a) + nI i = nI (40 * m + i) := by rw [e, sIx40]
theorem sBackI {r p : Nat} (h : p < r) : (nI r - 1) - nI p = nI (r - 1 - p) := by
  obtain ⟨k, rfl⟩ : ∃ k, r = k + 1 := ⟨r - 1, by omega⟩
  rw [nI_pred, pk_sub (by omega), Nat.add_sub_cancel]
theorem sPlace {a : Int32} {r : Nat} (hr : r < 2 ^ 31) (h : 0 ≤ a) (h2 : a < nI r) : a.toNatClampNeg < r ∧ a = nI a.toNatClampNeg := by
  rw [Int32.le_iff_toInt_le, show (0 : Int32).toInt = 0 from by decide] at h
  rw [Int32.lt_iff_toInt_lt, nI_toInt hr] at h2
  exact zCl (vp_in_iff.mpr ⟨h, h2⟩) hr
section ZN
variable {p : Program} {l : Launch} {e : Env} {R : Room} {s : State} {m : MethodId} {args : Array Value} {below : List Frame} {meth : Method} {c : Code} {H : Heap} {locs : List Loc} {cells slots : Nat} {Q : State → Prop}
variable {cc : ByteArray} {pc : Nat} {ls : Array Slot} {rest : List Value} {D : va_G} {cl : List vw_C} {A : Nat → Prop} {tys : List (ClassId × FieldType)} {ws : va_W} {H0 : Heap}
/-- a new array of numbers, whose class is among those that are known -/
theorem z_newa {t0 : Nat} {cA : ClassId} (hexec : p.tables.exec = Jvm.exec) (hb : c.code = cc) {atype : ArrayType} (harr : (Cond.arrayClass (newarray.typeOf atype)).before args s = true) {ty : FieldType} (hty : newarray.typeOf atype = ty) (ht : tys[t0]? = some (cA, ty)) (hK : va_K D cl tys s) (hP : va_P D cl ws H) (hD : va_D A ws) (hS : va_S A H0 H locs) (hA : ∀ q, H0.size ≤ q → A q)
    {n : Int32} {N' : Nat} {a0 : vp_A} (ha : ∀ cA : ClassId, vp_cell cA a0 = arrV cA N' (fun _ => defaultValue ty)) (hn : ¬ n < 0) (hN : n.toNatClampNeg = N') (hbytes : N' * componentBytes ty ≤ 536870912) (hcells : cells + 1 ≤ R.cells) (hslots : slots + N' ≤ R.slots) (hdg : decode cc pc = .ok (.newarray atype, 2))
    (kk : ∀ (q : Nat) (H1 : Heap) (locs1 : List Loc), va_P D cl (ws ++ [(q, .inl (cA, a0))]) H1 → va_D A (ws ++ [(q, .inl (cA, a0))]) → va_S A H0 H1 locs1 →
      W p l e R s m args below meth c H1 locs1 (cells + 1) (slots + N') Q (F0 m (pc + 2) ls (.ref q :: rest))) : W p l e R s m args below meth c H locs cells slots Q (F0 m pc ls (.int n :: rest)) := by
  subst hty
  refine va_newaK hexec hb harr rfl hdg rfl hn hN hbytes hcells hslots rfl fun H1 cB e1 z1 o1 hAr hNm => ?_
  have hcB : cB = cA := by
    have h1 := (hK.2 t0 _ ht).2
    have h2 : s.vm.findClass ("[" ++ (newarray.typeOf atype).toString) = some cA := by cases atype <;> exact h1
    exact Option.some.inj (hNm.symm.trans h2)
  subst hcB
  have hk : ∀ (k : Nat) (x : Nat × va_E), ws[k]? = some x → H1[x.1]? = H[x.1]? := fun k x hx => o1 x.1 ((hP k x hx).lt)
  refine kk H.size H1 locs ((hP.kept hk).app (fun k x hx => ?_)) (hD.push hP rfl (hA _ hS.1)) ⟨Nat.le_trans hS.1 (by omega), fun x h1 h2 => (o1 x (Nat.lt_of_lt_of_le h1 hS.1)).trans (hS.2.1 x h1 h2), hS.2.2⟩
  have hz : k < 1 := (List.getElem?_eq_some_iff.mp hx).1
  rw [show k = 0 by omega] at hx
  cases hx
  show H1[H.size]? = some (vp_cell _ _)
  rw [ha]
  exact e1
end ZN
/-- the numbers of a new object -/
def zN0 : Nat → Nat := fun _ => 0
def zF8 : Nat → Int32 := upd (upd (upd (upd (upd (upd (upd (upd (fun _ => 0) 0 (-1)) 1 (-1)) 2 (-1)) 3 (-1)) 4 (-1)) 5 (-1)) 6 (-1)) 7 (-1)
def zT0 : Nat → Nat → Int32 := va_up (va_up (va_up (fun _ _ => 0) 4 zF8) 18 (fun _ => -1)) 9 (fun _ => -1)
theorem sMR_pipe {N : Nat → Nat} {T : Nat → Nat → Int32} {E : Nat → Int64} {hg ag mn sd tk : Nat → Int32} {v f t : Int32} (h : sMR N T E hg ag mn sd tk) : sMR N (nPipe N T v f t).2 E hg ag mn sd tk := by
  obtain ⟨h1, h2, h3, h4, h5⟩ := h
  exact ⟨h1, h2, h3, sSD_keep h4 rfl (fun m => rfl) (fun m => by simp [nPipe, va_up, z20_4, z20_5]), h5⟩
