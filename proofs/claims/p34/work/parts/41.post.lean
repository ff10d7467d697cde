/-! posting -/
theorem zPostN {N : Nat → Nat} {j x y z : Nat} (hj : 6 ≠ j) : va_up (va_up (va_up (va_up N 6 x) j y) 5 z) 4 0 = va_up (va_up (va_up (va_up N j y) 5 z) 4 0) 6 x := by
  rw [va_up_cm hj, va_up_cm (show 6 ≠ 5 by decide), va_up_cm (show 6 ≠ 4 by decide)]
theorem upd_id {f : Nat → Int32} {i : Nat} {x : Int32} (h : f i = x) : upd f i x = f := by
  funext j
  by_cases c : j = i
  · rw [c, upd_at, h]
  · rw [upd_no c]
theorem sC_garb {G : zG} {d : Nat} {r A : Nat → Nat} {mc : Nat → Int32} {g : Nat → Nat → Int32} {N : Nat → Nat} {T : Nat → Nat → Int32} {w : va_W} {k x : Nat} {e0 y : va_E} (hC : sCQ G d r A mc g N T w) (hk : 12 ≤ k) (hw : w[k]? = some (x, e0)) (hx : ∀ i, cL N i → A i ≠ x) : sCQ G d r A mc g N T (w.set k (x, y)) := by
  refine ⟨⟨fun j hj => z_other (by omega) (hC.1.1 j hj), fun i hi => ?_, hC.1.2.2⟩, hC.2⟩
  obtain ⟨k2, h1, h2⟩ := hC.1.2.1 i hi
  refine ⟨k2, h1, z_other (fun e => ?_) h2⟩
  subst e
  rw [hw] at h2
  exact hx i hi (congrArg Prod.fst (Option.some.inj h2)).symm
