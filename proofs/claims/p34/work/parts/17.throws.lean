theorem zWords_tab {w : Cond} (h : w ∈ zWords) : w.onTables = true := by
  have := List.all_eq_true.mp zWords_kind w h
  cases w <;> first | rfl | (simp [zKind] at this; done)
theorem zThrow_all {args : Array Value} {s : State} {ic : Nat} {C : String} (h1 : ∀ w ∈ (vx_atS RX6 ic C ["java/lang/RuntimeException", "java/lang/Exception"]).filter goodWord, w.before args s = true) (hm : ∀ w ∈ zBad ic C, w ∈ zWords) (hN : zNs s) : ∀ w ∈ vx_atS RX6 ic C ["java/lang/RuntimeException", "java/lang/Exception"], w.before args s = true :=
  vx_hat h1 (B := zWords) (fun w h => hm w h) (fun w h => va_Nw.use (zWords_tab h) (hN.1 w h))
theorem zBad_204 : ∀ w ∈ zBad 204 "java/lang/IndexOutOfBoundsException", w ∈ zWords := fun w h => List.mem_append_right _ (List.mem_append_left _ (List.mem_append_left _ h))
theorem zBad_99 : ∀ w ∈ zBad 99 "java/lang/IllegalStateException", w ∈ zWords := fun w h => List.mem_append_right _ (List.mem_append_left _ (List.mem_append_right _ h))
theorem zBad_88 : ∀ w ∈ zBad 88 "java/lang/IllegalArgumentException", w ∈ zWords := fun w h => List.mem_append_right _ (List.mem_append_right _ h)
theorem zGood_204 : ∀ w ∈ Cond.classLink RX6 200 "java/lang/IndexOutOfBoundsException" :: Cond.initialized "java/lang/IndexOutOfBoundsException" :: vx_atS RX6 204 "java/lang/IndexOutOfBoundsException" ["java/lang/RuntimeException", "java/lang/Exception"], vx_ot w = true := List.all_eq_true.mp (by decide +kernel)
theorem zText {s : State} (hN : zNs s) (i : Nat) {q : String × Nat × String} (h : zTexts[i]? = some q) : ∃ sa : Nat, vk_R q.1 q.2.1 q.2.2 sa s := hN.2 q (List.mem_of_getElem? h)
section ZWD
variable {p : Program} {l : Launch} {e : Env} {R : Room} {s : State} {m : MethodId} {args : Array Value} {below : List Frame} {meth : Method} {c : Code} {H : Heap} {locs : List Loc} {cells slots : Nat} {Q : State → Prop}
theorem z_widen {g : JFrame} {k n : Nat} (h1 : cells ≤ k) (h2 : slots ≤ n) (kk : W p l e R s m args below meth c H locs k n Q g) : W p l e R s m args below meth c H locs cells slots Q g := fun T hT X => kk T hT (stand_widen X h1 h2)
end ZWD
theorem zGood_99 : ∀ w ∈ Cond.classLink RX6 95 "java/lang/IllegalStateException" :: Cond.initialized "java/lang/IllegalStateException" :: vx_atS RX6 99 "java/lang/IllegalStateException" ["java/lang/RuntimeException", "java/lang/Exception"], vx_ot w = true := List.all_eq_true.mp (by decide +kernel)
theorem zGood_88 : ∀ w ∈ Cond.classLink RX6 84 "java/lang/IllegalArgumentException" :: Cond.initialized "java/lang/IllegalArgumentException" :: vx_atS RX6 88 "java/lang/IllegalArgumentException" ["java/lang/RuntimeException", "java/lang/Exception"], vx_ot w = true := List.all_eq_true.mp (by decide +kernel)
theorem zIx_neg {a : Int32} {k : Nat} (h1 : a < 0) : sIx a k = false := by
  have h2 : (0 : Int32).toInt = 0 := by decide
  rw [Int32.lt_iff_toInt_lt, h2] at h1
  rw [sIx, decide_eq_false_iff_not]
  omega
theorem zEnd_or {v : Int32} : sEnd v = (decide (v = -1) || sIx v 3) := by
  have h1 : (-1 : Int32).toInt = -1 := by decide
  have h2 : (2 : Int32).toInt = 2 := by decide
  rw [Bool.eq_iff_iff]
  simp only [sEnd, sIn, sIx, Bool.and_eq_true, Bool.or_eq_true, decide_eq_true_eq, Int32.le_iff_toInt_le, h1, h2, ← Int32.toInt_inj]
  omega
theorem zRf_v (x : Option Nat) : va_rf x = .null ∨ ∃ a, va_rf x = .ref a := by
  cases x with
  | none => exact Or.inl rfl
  | some a => exact Or.inr ⟨a, rfl⟩
