/-! beginnings -/
def zFl (f : Nat → Int32) (v : Int32) (i : Nat) : Nat → Int32 := fun j => if j < i then v else f j
theorem zFl_0 {f : Nat → Int32} {v : Int32} : zFl f v 0 = f := by
  funext j
  rw [zFl, if_neg (by omega)]
theorem zFl_s {f : Nat → Int32} {v : Int32} {i : Nat} : upd (zFl f v i) i v = zFl f v (i + 1) := by
  funext j
  by_cases c : j = i
  · subst c
    rw [upd_at, zFl, if_pos (by omega)]
  · rw [upd_no c, zFl, zFl]
    by_cases e : j < i
    · rw [if_pos e, if_pos (by omega)]
    · rw [if_neg e, if_neg (by omega)]
theorem arrV_cg {cI : ClassId} {n : Nat} {f f2 : Nat → Value} (h : ∀ j, j < n → f j = f2 j) : arrV cI n f = arrV cI n f2 := by
  have : (Array.ofFn (n := n) fun j => f j.val) = Array.ofFn (n := n) fun j => f2 j.val := congrArg Array.ofFn (funext fun j => h j.val j.isLt)
  rw [arrV, arrV, this]
/-- what an array holds beyond its end is free -/
theorem va_P.arr {D : va_G} {cl : List vw_C} {ws : va_W} {H : Heap} {k a n : Nat} {c : ClassId} {f f2 : Nat → Int32} (h : va_P D cl ws H) (hk : ws[k]? = some (a, .inl (c, n, .inl f))) (he : ∀ j, j < n → f j = f2 j) : va_P D cl (ws.set k (a, .inl (c, n, .inl f2))) H := by
  intro q x hq
  by_cases e : k = q
  · subst e
    rw [z_self hk] at hq
    cases hq
    have h1 : H[a]? = some (arrV c n (fun j => .int (f j))) := h k _ hk
    show H[a]? = some (arrV c n (fun j => .int (f2 j)))
    rw [h1, arrV_cg (fun j hj => congrArg Value.int (he j hj))]
  · rw [List.getElem?_set_ne e] at hq
    exact h q x hq
