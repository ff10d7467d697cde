/-! what the law's flow makes of the levels, unit by unit -/
theorem sEnd_4 {v : Int32} (h : sEnd v = true) : v = -1 ∨ v = 0 ∨ v = 1 ∨ v = 2 := by
  by_cases c : v = -1
  · exact Or.inl c
  · obtain ⟨j, hj, rfl⟩ := vp_in_of (sEnd_in h c) (by omega)
    rcases (show j = 0 ∨ j = 1 ∨ j = 2 by omega) with rfl | rfl | rfl
    · exact Or.inr (Or.inl rfl)
    · exact Or.inr (Or.inr (Or.inl rfl))
    · exact Or.inr (Or.inr (Or.inr rfl))
theorem sEnd_lt {v : Int32} (h : sEnd v = true) : v < 0 ↔ v = -1 := by
  rcases sEnd_4 h with rfl | rfl | rfl | rfl <;> decide
theorem sR1_ends {T F : Nat → Nat → Int32} {v : Nat} (h : sR1 T F) (hE : ∀ v, v < 8 → sEnd (T 4 v) = true ∧ sEnd (T 5 v) = true ∧ ¬ T 4 v = T 5 v) (hv : v < 8) : F 1 v - F 1 v / 4 * 4 - 1 = T 4 v ∧ F 1 v / 4 - 1 = T 5 v := by
  obtain ⟨e1, e2, -⟩ := hE v hv
  rw [h v hv]
  generalize T 4 v = a at e1
  generalize T 5 v = b at e2
  rcases sEnd_4 e1 with rfl | rfl | rfl | rfl <;> rcases sEnd_4 e2 with rfl | rfl | rfl | rfl <;> decide
def uL (f t : Int32) (l : Nat → Int32) (x y a b : Nat) : Nat → Int32 := fun j => if ¬ f = -1 ∧ j = f.toNatClampNeg then nI (x - a) else if ¬ t = -1 ∧ j = t.toNatClampNeg then nI (min (y + b) 1000) else l j
def uG (t g : Int32) (y b : Nat) : Int32 := if t = -1 then g else g + nI (y + b - 1000)
section UL
variable {f t g : Int32} {l : Nat → Int32} {x y a b : Nat}
theorem uL_0 (hf : ¬ f = -1 → l f.toNatClampNeg = nI x) (ht : ¬ t = -1 → l t.toNatClampNeg = nI y) (hy : y ≤ 1000) : uL f t l x y 0 0 = l := by
  funext j
  rw [uL]
  split
  · rename_i h; rw [h.2, hf h.1]; rfl
  · split
    · rename_i h; rw [h.2, ht h.1]; exact congrArg nI (by omega)
    · rfl
theorem uG_0 (hy : y ≤ 1000) : uG t g y 0 = g := by
  rw [uG]
  split
  · rfl
  · rw [show y + 0 - 1000 = 0 by omega]; exact Int32.add_zero g
theorem uL_fat (hf : ¬ f = -1) : uL f t l x y a b f.toNatClampNeg = nI (x - a) := if_pos ⟨hf, rfl⟩
theorem uL_tat (hft : f = -1 ∨ ¬ f.toNatClampNeg = t.toNatClampNeg) (ht : ¬ t = -1) : uL f t l x y a b t.toNatClampNeg = nI (min (y + b) 1000) := by
  rw [uL, if_neg (fun h => hft.elim h.1 (fun z => z h.2.symm)), if_pos ⟨ht, rfl⟩]
theorem uL_nf {j : Nat} (h : ¬ (¬ f = -1 ∧ j = f.toNatClampNeg)) : uL f t l x y a b j = if ¬ t = -1 ∧ j = t.toNatClampNeg then nI (min (y + b) 1000) else l j := if_neg h
theorem uL_f (hf : ¬ f = -1) : upd (uL f t l x y a b) f.toNatClampNeg (nI (x - a - 1)) = uL f t l x y (a + 1) b := by
  funext j
  by_cases c : j = f.toNatClampNeg
  · rw [c, upd_at, uL_fat hf, Nat.sub_sub]
  · rw [upd_no c, uL_nf (fun h => c h.2), uL_nf (fun h => c h.2)]
theorem uL_f0 (hf : f = -1) : uL f t l x y a b = uL f t l x y (a + 1) b := by
  funext j
  rw [uL_nf (fun h => h.1 hf), uL_nf (fun h => h.1 hf)]
theorem uL_t (hft : f = -1 ∨ ¬ f.toNatClampNeg = t.toNatClampNeg) (ht : ¬ t = -1) (h : y + b < 1000) : upd (uL f t l x y a b) t.toNatClampNeg (nI (y + b + 1)) = uL f t l x y a (b + 1) := by
  funext j
  by_cases c : j = t.toNatClampNeg
  · rw [c, upd_at, uL_tat hft ht]; exact congrArg nI (by omega)
  · rw [upd_no c, uL, uL, if_neg (show ¬ (¬ t = -1 ∧ j = t.toNatClampNeg) from fun h => c h.2), if_neg (show ¬ (¬ t = -1 ∧ j = t.toNatClampNeg) from fun h => c h.2)]
theorem uL_t0 (ht : t = -1) : uL f t l x y a b = uL f t l x y a (b + 1) := by
  funext j
  rw [uL, uL, if_neg (show ¬ (¬ t = -1 ∧ j = t.toNatClampNeg) from fun h => h.1 ht), if_neg (show ¬ (¬ t = -1 ∧ j = t.toNatClampNeg) from fun h => h.1 ht)]
theorem uL_tf (h : 1000 ≤ y + b) : uL f t l x y a b = uL f t l x y a (b + 1) := by
  funext j
  rw [uL, uL, show min (y + b) 1000 = min (y + (b + 1)) 1000 by omega]
theorem uG_t0 (ht : t = -1) : uG t g y b = uG t g y (b + 1) := by rw [uG, uG, if_pos ht, if_pos ht]
theorem uG_f (ht : ¬ t = -1) (h : 1000 ≤ y + b) : uG t g y b + 1 = uG t g y (b + 1) := by
  rw [uG, uG, if_neg ht, if_neg ht, show y + (b + 1) - 1000 = (y + b - 1000) + 1 by omega, ← nI_1, Int32.add_assoc]
theorem uG_lt (h : y + b < 1000) : uG t g y b = uG t g y (b + 1) := by
  rw [uG, uG, show y + (b + 1) - 1000 = y + b - 1000 by omega]
end UL
/-- the levels are small -/
def sLv (T : Nat → Nat → Int32) : Prop := ∀ i, i < 3 → ∃ x : Nat, x ≤ 1000 ∧ T 6 i = nI x
theorem zEl {v : Int32} {l : Nat → Int32} (hE : sEnd v = true) (h : ∀ i, i < 3 → ∃ x : Nat, x ≤ 1000 ∧ l i = nI x) : ∃ x : Nat, x ≤ 1000 ∧ (¬ v = -1 → l v.toNatClampNeg = nI x) := by
  by_cases c : v = -1
  · exact ⟨0, by omega, fun z => absurd c z⟩
  · obtain ⟨c1, -⟩ := zCl (sEnd_in hE c) (by omega)
    obtain ⟨x, h1, h2⟩ := h _ c1
    exact ⟨x, h1, fun _ => h2⟩
theorem zEne {f t : Int32} (h1 : sEnd f = true) (h2 : sEnd t = true) (h : ¬ f = t) : f = -1 ∨ t = -1 ∨ ¬ f.toNatClampNeg = t.toNatClampNeg := by
  by_cases c : f = -1
  · exact Or.inl c
  · by_cases d : t = -1
    · exact Or.inr (Or.inl d)
    · refine Or.inr (Or.inr (fun z => h ?_))
      rw [(zCl (sEnd_in h1 c) (by omega)).2, (zCl (sEnd_in h2 d) (by omega)).2, z]
/-- ten units at most, as many as there are: what the class makes at once -/
theorem uL_led {N : Nat → Nat} {T : Nat → Nat → Int32} {i x y m : Nat} (hE : sEnd (T 4 i) = true ∧ sEnd (T 5 i) = true ∧ ¬ T 4 i = T 5 i) (hx : x ≤ 1000 ∧ (¬ T 4 i = -1 → T 6 (T 4 i).toNatClampNeg = nI x)) (hy : y ≤ 1000 ∧ (¬ T 5 i = -1 → T 6 (T 5 i).toNatClampNeg = nI y))
    (hm : m ≤ 10) (hm1 : T 4 i = -1 → m = 10) (hm2 : ¬ T 4 i = -1 → m ≤ x ∧ (m = 10 ∨ x ≤ m)) : (sLed N T i).2 6 = uL (T 4 i) (T 5 i) (T 6) x y m m ∧ (sLed N T i).2 19 1 = uG (T 5 i) (T 19 1) y m := by
  have em : sMuch T i = nI m := by
    rw [sMuch]
    split
    · rename_i c; rw [hm1 c]; rfl
    · rename_i c
      obtain ⟨h1, h2⟩ := hm2 c
      rw [hx.2 c]
      have e10 : nI x ≤ 10 ↔ x ≤ 10 := nI_leI (b := 10) (by omega) (by omega)
      by_cases c10 : x ≤ 10
      · rw [if_pos (e10.mpr c10)]; exact congrArg nI (by omega)
      · rw [if_neg (fun z => c10 (e10.mp z)), show m = 10 by omega]; rfl
  have e1 : ∀ j, sL1 T i j = if ¬ T 4 i = -1 ∧ j = (T 4 i).toNatClampNeg then nI (x - m) else T 6 j := by
    intro j
    rw [sL1]
    by_cases c : T 4 i = -1
    · rw [if_pos c, if_neg (fun h => h.1 c)]
    · rw [if_neg c]
      by_cases d : j = (T 4 i).toNatClampNeg
      · rw [if_pos ⟨c, d⟩, d, upd_at, hx.2 c, em, pk_sub (hm2 c).1]
      · rw [if_neg (fun h => d h.2), upd_no d]
  unfold sLed
  by_cases ct : T 5 i = -1
  · rw [if_pos ct]
    refine ⟨?_, ?_⟩
    · funext j
      show sL1 T i j = _
      rw [e1, uL, if_neg (show ¬ (¬ T 5 i = -1 ∧ j = (T 5 i).toNatClampNeg) from fun h => h.1 ct)]
    · show T 19 1 = _
      rw [uG, if_pos ct]
  · rw [if_neg ct]
    have hne : ¬ (¬ T 4 i = -1 ∧ (T 5 i).toNatClampNeg = (T 4 i).toNatClampNeg) := by
      intro h
      rcases zEne hE.1 hE.2.1 hE.2.2 with z | z | z
      · exact h.1 z
      · exact ct z
      · exact z h.2.symm
    have ef : sFill T i = nI (y + m) := by rw [sFill, e1, if_neg hne, hy.2 ct, em, nI_add]
    have eo : sOver T i = nI (y + m - 1000) := by
      rw [sOver, ef]
      have e10 : nI (y + m) ≤ 1000 ↔ y + m ≤ 1000 := nI_leI (b := 1000) (by omega) (by omega)
      by_cases c10 : y + m ≤ 1000
      · rw [if_pos (e10.mpr c10), show y + m - 1000 = 0 by omega]; rfl
      · rw [if_neg (fun z => c10 (e10.mp z)), show (1000 : Int32) = nI 1000 from rfl, pk_sub (by omega)]
    refine ⟨?_, ?_⟩
    · funext j
      show upd (sL1 T i) (T 5 i).toNatClampNeg (sFill T i - sOver T i) j = _
      by_cases d : j = (T 5 i).toNatClampNeg
      · rw [d, upd_at, ef, eo, pk_sub (by omega), uL, if_neg hne, if_pos ⟨ct, rfl⟩]
        exact congrArg nI (by omega)
      · rw [upd_no d, e1, uL, if_neg (show ¬ (¬ T 5 i = -1 ∧ j = (T 5 i).toNatClampNeg) from fun h => d h.2)]
    · show upd (T 19) 1 (T 19 1 + sOver T i) 1 = _
      rw [upd_at, eo, uG, if_neg ct]
theorem sLed_lv {N : Nat → Nat} {T : Nat → Nat → Int32} {i : Nat} (hE : sEnd (T 4 i) = true ∧ sEnd (T 5 i) = true ∧ ¬ T 4 i = T 5 i) (h : sLv T) : sLv (sLed N T i).2 := by
  obtain ⟨x, hx⟩ := zEl hE.1 h
  obtain ⟨y, hy⟩ := zEl hE.2.1 h
  obtain ⟨m, m1, m2, m3⟩ : ∃ m : Nat, m ≤ 10 ∧ (T 4 i = -1 → m = 10) ∧ (¬ T 4 i = -1 → m ≤ x ∧ (m = 10 ∨ x ≤ m)) := by
    by_cases c : T 4 i = -1
    · exact ⟨10, by omega, fun _ => rfl, fun z => absurd c z⟩
    · exact ⟨min x 10, by omega, fun z => absurd z c, fun _ => by omega⟩
  obtain ⟨e, -⟩ := uL_led (N := N) hE hx hy m1 m2 m3
  intro j hj
  rw [e, uL]
  split
  · exact ⟨_, by omega, rfl⟩
  · split
    · exact ⟨_, by omega, rfl⟩
    · exact h j hj
theorem sLeads_c {N : Nat → Nat} {T : Nat → Nat → Int32} {i : Nat} (h : T 3 i = 0) : sLeads (i + 1) N T = sLeads i N T := by
  obtain ⟨-, -, g3, -⟩ := sLeads_same (N := N) (T := T) (i := i)
  show (if (sLeads i N T).2 3 i = 0 then sLeads i N T else sLed (sLeads i N T).1 (sLeads i N T).2 i) = _
  rw [if_pos (by rw [g3]; exact h)]
theorem sLeads_o {N : Nat → Nat} {T : Nat → Nat → Int32} {i : Nat} (h : ¬ T 3 i = 0) : sLeads (i + 1) N T = sLed (sLeads i N T).1 (sLeads i N T).2 i := by
  obtain ⟨-, -, g3, -⟩ := sLeads_same (N := N) (T := T) (i := i)
  show (if (sLeads i N T).2 3 i = 0 then sLeads i N T else sLed (sLeads i N T).1 (sLeads i N T).2 i) = _
  rw [if_neg (by rw [g3]; exact h)]
theorem sLeads_k {N : Nat → Nat} {T : Nat → Nat → Int32} {i : Nat} : (sLeads i N T).2 4 = T 4 ∧ (sLeads i N T).2 5 = T 5 := ⟨sLeads_keep.2 4 (by omega) (by omega) (by omega) (by omega) (by omega), sLeads_keep.2 5 (by omega) (by omega) (by omega) (by omega) (by omega)⟩
theorem sLeads_lv {N : Nat → Nat} {T : Nat → Nat → Int32} (hE : ∀ v, v < 8 → sEnd (T 4 v) = true ∧ sEnd (T 5 v) = true ∧ ¬ T 4 v = T 5 v) (h : sLv T) : ∀ {i : Nat}, i ≤ 8 → sLv (sLeads i N T).2
  | 0, _ => h
  | i + 1, hi => by
    by_cases c : T 3 i = 0
    · rw [sLeads_c c]; exact sLeads_lv hE h (by omega)
    · rw [sLeads_o c]
      refine sLed_lv ?_ (sLeads_lv hE h (by omega))
      rw [sLeads_k.1, sLeads_k.2]
      exact hE i (by omega)
/-- the law's row of levels behind i valves -/
def uLF (F : Nat → Nat → Int32) (l : Nat → Int32) (g : Int32) : Nat → Nat → Int32 := va_up (va_up F 2 l) 9 (upd (F 9) 3 g)
def uRow (N : Nat → Nat) (T : Nat → Nat → Int32) (i : Nat) (l : Nat → Int32) (g : Int32) : Prop := (∀ j, j < 3 → l j = (sLeads i N T).2 6 j) ∧ g = (sLeads i N T).2 19 1
theorem uRow_c {N : Nat → Nat} {T : Nat → Nat → Int32} {i : Nat} {l : Nat → Int32} {g : Int32} (h : uRow N T i l g) (c : T 3 i = 0) : uRow N T (i + 1) l g := by
  unfold uRow at h ⊢
  rw [sLeads_c c]
  exact h
theorem uRow_o {N : Nat → Nat} {T : Nat → Nat → Int32} {i x y m : Nat} {l : Nat → Int32} {g : Int32} (h : uRow N T i l g) (c : ¬ T 3 i = 0) (hE : sEnd (T 4 i) = true ∧ sEnd (T 5 i) = true ∧ ¬ T 4 i = T 5 i) (hx : x ≤ 1000 ∧ (¬ T 4 i = -1 → l (T 4 i).toNatClampNeg = nI x)) (hy : y ≤ 1000 ∧ (¬ T 5 i = -1 → l (T 5 i).toNatClampNeg = nI y))
    (hm : m ≤ 10) (hm1 : T 4 i = -1 → m = 10) (hm2 : ¬ T 4 i = -1 → m ≤ x ∧ (m = 10 ∨ x ≤ m)) : uRow N T (i + 1) (uL (T 4 i) (T 5 i) l x y m m) (uG (T 5 i) g y m) := by
  have e4 : (sLeads i N T).2 4 i = T 4 i := congrFun sLeads_k.1 i
  have e5 : (sLeads i N T).2 5 i = T 5 i := congrFun sLeads_k.2 i
  have c4 : ¬ T 4 i = -1 → (T 4 i).toNatClampNeg < 3 := fun z => (zCl (sEnd_in hE.1 z) (by omega)).1
  have c5 : ¬ T 5 i = -1 → (T 5 i).toNatClampNeg < 3 := fun z => (zCl (sEnd_in hE.2.1 z) (by omega)).1
  have key := uL_led (N := (sLeads i N T).1) (T := (sLeads i N T).2) (i := i) (x := x) (y := y) (m := m) (by rw [e4, e5]; exact hE) (by rw [e4]; exact ⟨hx.1, fun z => by rw [← h.1 _ (c4 z)]; exact hx.2 z⟩) (by rw [e5]; exact ⟨hy.1, fun z => by rw [← h.1 _ (c5 z)]; exact hy.2 z⟩) hm (by rw [e4]; exact hm1) (by rw [e4]; exact hm2)
  rw [e4, e5, ← h.2] at key
  unfold uRow
  rw [sLeads_o c]
  refine ⟨fun j hj => ?_, key.2.symm⟩
  rw [key.1, uL, uL, h.1 j hj]
theorem sLQ.fl {N : Nat → Nat} {T : Nat → Nat → Int32} {E : Nat → Int64} {F : Nat → Nat → Int32} (h : sLQ N T E F) (l : Nat → Int32) (g : Int32) : sLQ N T E (va_up (va_up F 2 l) 9 (upd (F 9) 3 g)) := by
  obtain ⟨a, b, ⟨q0, q1, q2, q5⟩, d, e, f⟩ := h
  exact ⟨a, b, ⟨q0, q1, q2, q5⟩, d, e, f⟩
theorem uF_0 {F : Nat → Nat → Int32} : va_up (va_up F 2 (F 2)) 9 (upd (F 9) 3 (F 9 3)) = F := by
  funext k j
  by_cases c : k = 9
  · subst c
    rw [va_up_self]
    by_cases d : j = 3
    · rw [d, upd_at]
    · rw [upd_no d]
  · rw [va_up_ne _ _ c]
    by_cases d : k = 2
    · subst d; rw [va_up_self]
    · rw [va_up_ne _ _ d]
theorem upd_same {f : Nat → Int32} {i : Nat} : upd f i (f i) = f := by
  funext j
  by_cases c : j = i
  · rw [c, upd_at]
  · rw [upd_no c]
