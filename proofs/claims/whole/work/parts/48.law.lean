/-! THE CLAIM OUT OF ONE WALK OF THE LAW'S BODY. Your part is whole_start (and what it stands on); all else here is the same for every law, but numbers. -/
def R_law : String := "BoilerLogLaw"
def lw_P (b : Addr) (xs : List Int32) (args : Array Value) (s : State) : Prop := args = #[.ref b] ∧ s.IntsAt b xs ∧ xs.length ≤ 3072 ∧ (Jvm.Cond.and given_1 narrow_1).before args s = true
def lw_Q (_ : Array Value) (s : State) (o : Outcome) (t : State) : Prop := o = .returned (some (.int 1)) ∧ Framed s o t [] 601024 7293034
def lw_Z (below : List Frame) (a : Array Value) (s : State) : State → Prop := fun t => ∃ o, t.status = .running ∧ Ended t below o ∧ lw_Q a s o t
/-- the law's own end, with 1 on the stack, nothing written that was there before, its room as the claim has it -/
theorem lw_ret {p : Program} {l : Launch} {e : Env} {s : State} {m : MethodId} {below : List Frame} {meth : Method} {c : Code} {b : Nat} (hx : p.tables.exec = Jvm.exec) (hb : c.code = code) (hr : meth.sig.returnType = ret) (hlocks : meth.locks = false) {pc : Nat} {H : Heap} {ls : Array Slot} (hdg : decode code pc = .ok (.ireturn, 1)) : W p l e room_1 s m #[Value.ref b] below meth c H [] 601024 7293034 (lw_Z below #[Value.ref b] s) (F0 m pc ls [.int 1]) := by
  intro T hT X
  obtain ⟨fs, hret, hrun, hended, hW, hframe⟩ := X.leave (v := some (.int 1)) (hlocks := hlocks) (fun h => by rw [hr] at h; cases h)
  have hmeth' : T.vm.method? m = some meth := X.method'
  refine ⟨T.setFrames fs, ?_, .returned (some (.int 1)), hrun, hended, rfl, ⟨_, rfl⟩, hW, hframe⟩
  jvm_step X.here [X.here.top, hx, hb, hdg, hmeth', hr, ret, narrow_b1]
  (try refine ⟨rfl, ?_⟩); (try refine ⟨rfl, ?_⟩)
  first | (intro acts; rw [hret _ acts rfl rfl rfl]) | rw [hret _ _ rfl rfl rfl]
  exact Steps.refl _
/-- what holds at the law's entry: the machine, the code, the tables' words (any of lw_tbl by 'hts w (by decide +kernel)'), the script of L ints xs at the cell b, what the Statement gives of the start (any of its parts by flat_of_before) -/
def lw_At (p : Program) (s : State) (m : MethodId) (meth : Method) (c : Code) (b L : Nat) (xs : Nat → Int32) : Prop :=
  p.tables.exec = Jvm.exec ∧ c.code = code ∧ meth.sig.returnType = ret ∧ c.maxLocals = 7 ∧ s.vm.findClass R_law = some m.cls ∧ (∀ w ∈ lw_tbl, w.before #[Value.ref b] s = true) ∧ va_X b L xs s s.heap ∧ b < s.heap.size ∧ meth.locks = false ∧ (Jvm.Cond.and given_1 narrow_1).before #[Value.ref b] s = true
/-! the law: what it takes as given beside the class's environment, its world and its calls -/
def zEx : Nat → String
  | 0 => "java/lang/IndexOutOfBoundsException"
  | 1 => "java/lang/IllegalArgumentException"
  | _ => "java/lang/IllegalStateException"
def zLx (U : State) : Prop := (∀ i, i < 3 → va_Nw (.castable (zEx i) (zEx i)) U) ∧ ∀ i j, i < 3 → j < 3 → i ≠ j → va_Nc (zEx i) (zEx j) U
theorem zLx.moved {u U : State} (hvm : u.vm.Alike U.vm) (h : zLx u) : zLx U :=
  ⟨fun i hi => va_tabs rfl (rfl : (u.setVm U.vm).vm = U.vm) (by rw [Cond.castable_setVm hvm]; exact h.1 i hi), fun i j hi hj hij => va_Nc.moved hvm (h.2 i j hi hj hij)⟩
def zHu (G : zG) (d : Nat) (w : va_W) (sz : Nat) (U : State) : Prop := zCu G d w sz U ∧ zLx U
theorem zHu.blind {G : zG} {d : Nat} {w : va_W} {sz : Nat} {av : List Value} : FrameBlind (va_Pc av (zHu G d w sz)) := fun a U g mk q => ⟨q.1, (zCu.blind (G := G) (d := d) (w := w) (sz := sz) (av := av) a U g mk ⟨q.1, q.2.1⟩).2, zLx.moved (u := U) (U := U.calling g mk a) (Vm.Alike.refl U.vm) q.2.2⟩
/-- the law's own cell: what the last call of the class answered -/
abbrev zOut (G : zG) (f : Nat → Int64) : va_E := .inl (G.2 1, 1, .inr (.inl f))
def zL1 (x : Int32) : Int64 := if x = 0 then 0 else 1
/-- behind a call through the law: what is thrown, what lies in its cell, the class's next state -/
def zHq (G : zG) (d : Nat) (r : Nat → Nat) (o : Nat) (k : Int32) (a : Int64) (N : Nat → Nat) (T : Nat → Nat → Int32) (N2 : Nat → Nat) (T2 : Nat → Nat → Int32) (w1 : va_W) : Prop :=
  ∃ (w2 : va_W) (f2 : Nat → Int64), w1 = w2 ++ ([(o, zOut G f2)] : va_W) ∧ (k = 0 → f2 0 = a ∧ sCO G d r N2 T2 w2) ∧ (¬ k = 0 → sCO G d r N T w2)
theorem z_apL {D : va_G} {cl : List vw_C} {a b : va_W} {H : Heap} (h : va_P D cl (a ++ b) H) : va_P D cl a H := fun k q hk => h k q (by rw [List.getElem?_append_left (List.getElem?_eq_some_iff.mp hk).1]; exact hk)
theorem z_apR {D : va_G} {cl : List vw_C} {a b : va_W} {H : Heap} (h : va_P D cl (a ++ b) H) : va_P D cl b H := fun k q hk => h (a.length + k) q (by rw [List.getElem?_append_right (Nat.le_add_right _ _), Nat.add_sub_cancel_left]; exact hk)
theorem z_ap {D : va_G} {cl : List vw_C} {a b : va_W} {H : Heap} (ha : va_P D cl a H) (hb : va_P D cl b H) : va_P D cl (a ++ b) H := by
  intro k q hk
  by_cases c : k < a.length
  · rw [List.getElem?_append_left c] at hk; exact ha k q hk
  · rw [List.getElem?_append_right (by omega)] at hk; exact hb _ q hk
theorem z_dL {A : Nat → Prop} {a b : va_W} (h : va_D A (a ++ b)) : va_D A a := by
  have e : ∀ (k : Nat) (q : Nat × va_E), a[k]? = some q → (a ++ b)[k]? = some q := fun k q hk => by rw [List.getElem?_append_left (List.getElem?_eq_some_iff.mp hk).1]; exact hk
  exact ⟨fun i j p q hi hj hpq => h.1 i j p q (e i p hi) (e j q hj) hpq, fun k q hk => h.2 k q (e k q hk)⟩
theorem z_dR {A : Nat → Prop} {a b : va_W} (h : va_D A (a ++ b)) : va_D A b := by
  have e : ∀ (k : Nat) (q : Nat × va_E), b[k]? = some q → (a ++ b)[a.length + k]? = some q := fun k q hk => by rw [List.getElem?_append_right (Nat.le_add_right _ _), Nat.add_sub_cancel_left]; exact hk
  exact ⟨fun i j p q hi hj hpq => by have := h.1 _ _ p q (e i p hi) (e j q hj) hpq; omega, fun k q hk => h.2 _ q (e k q hk)⟩
theorem z_dX {A : Nat → Prop} {a b : va_W} (h : va_D A (a ++ b)) {i j : Nat} {p q : Nat × va_E} (hi : a[i]? = some p) (hj : b[j]? = some q) : p.1 ≠ q.1 := by
  intro e
  have hl := (List.getElem?_eq_some_iff.mp hi).1
  have := h.1 i (a.length + j) p q (by rw [List.getElem?_append_left hl]; exact hi) (by rw [List.getElem?_append_right (Nat.le_add_right _ _), Nat.add_sub_cancel_left]; exact hj) e
  omega
theorem z_dsw {A : Nat → Prop} {a b : va_W} (h : va_D A (a ++ b)) : va_D A (b ++ a) := (z_dR h).app (z_dL h) (fun _ _ _ _ hi hj e => z_dX h hj hi e.symm)
theorem z_psw {D : va_G} {cl : List vw_C} {a b : va_W} {H : Heap} (h : va_P D cl (a ++ b) H) : va_P D cl (b ++ a) H := z_ap (z_apR h) (z_apL h)
/-- a part of the world has been through a call; the rest stands -/
theorem z_jn {D : va_G} {cl : List vw_C} {a a1 b : va_W} {H H1 : Heap} {A0 : Nat → Prop} (hP : va_P D cl (a ++ b) H) (hD : va_D A0 (a ++ b)) (hF : ∀ q, va_A a H.size q → A0 q) (hk : ∀ q : Nat, q < H.size → ¬ va_A a H.size q → H1[q]? = H[q]?) (hP1 : va_P D cl a1 H1) (hD1 : va_D (va_A a H.size) a1) : va_P D cl (a1 ++ b) H1 ∧ va_D A0 (a1 ++ b) := by
  have hPb := z_apR hP
  have hn : ∀ (k : Nat) (q : Nat × va_E), b[k]? = some q → q.1 < H.size ∧ ¬ va_A a H.size q.1 := fun k q hq => by
    have hl : q.1 < H.size := (hPb k q hq).lt
    refine ⟨hl, fun h => ?_⟩
    rcases h with ⟨i, y, h⟩ | h
    · exact z_dX hD h hq rfl
    · exact absurd hl (Nat.not_lt.mpr h)
  refine ⟨z_ap hP1 (hPb.kept (fun k q hq => hk q.1 (hn k q hq).1 (hn k q hq).2)), ?_⟩
  refine (hD1.weaken (fun _ q _ h => hF q.1 h)).app (z_dR hD) (fun i j p q hi hj he => (hn j q hj).2 ?_)
  rw [← he]
  exact hD1.2 i p hi
theorem z_atx {w : va_W} {x : Nat × va_E} : (w ++ ([x] : va_W))[w.length]? = some x := by rw [List.getElem?_append_right (Nat.le_refl _), Nat.sub_self]; rfl
theorem z_setx {w : va_W} {x y : Nat × va_E} : (w ++ ([x] : va_W)).set w.length y = w ++ ([y] : va_W) := by rw [List.set_append_right _ _ (Nat.le_refl _), Nat.sub_self]; rfl
section ZLC
variable {p : Program} {l : Launch} {e : Env} {R : Room} {s : State} {m : MethodId} {args : Array Value} {below : List Frame} {meth : Method} {c : Code} {H : Heap} {locs : List Loc} {cells slots : Nat} {Q : State → Prop}
variable {pc : Nat} {ls : Array Slot} {rest st0 : List Value} {a : Array Value} {A0 : Nat → Prop} {H0 : Heap} {mc ms : Nat} {cc : ByteArray}
theorem z_hs {G : zG} {d : Nat} {w : va_W} {As : List Value} (hK : va_K G.1 vwCl (zT G.2) s) (hP : va_P G.1 vwCl w H) (hD : va_D A0 w) (hZ : zCe A0 d s s.heap) (hX : zLx s) (hS : va_S A0 s.heap H locs) (hA : ∀ q, s.heap.size ≤ q → A0 q) : PreS s H (va_Pc As (zHu G d w H.size)) As :=
  ⟨zHu.blind, fun U hU hW => ⟨rfl, ((z_ws (As := As) hK hP hD hZ hS hA).2 U hU hW).2, hX.moved hW.alike⟩⟩
/-- a call that gets a part of the world -/
theorem z_li {G : zG} {w wr : va_W} {post : Int32 → va_W → Prop} (hr : va_Run p l e R s m args below meth c H locs cells slots mc ms (F0 m pc ls st0) rest (va_Qi post (zB G (va_A w H.size)) (va_A w H.size) a) (va_A w H.size)) (hP : va_P G.1 vwCl (w ++ wr) H) (hD : va_D A0 (w ++ wr)) (hS : va_S A0 H0 H locs) (hA : ∀ q, H0.size ≤ q → A0 q)
    (kk : ∀ (r : Int32) (w1 : va_W) (H : Heap) (locs : List Loc), post r w1 → va_P G.1 vwCl (w1 ++ wr) H → va_D A0 (w1 ++ wr) → va_S A0 H0 H locs → W p l e R s m args below meth c H locs (cells + mc) (slots + ms) Q (F0 m (pc + 3) ls (.int r :: rest))) : W p l e R s m args below meth c H locs cells slots Q (F0 m pc ls st0) := by
  have hF := z_in (G := G) (z_dL hD) hS hA
  refine va_calli hr hS (fun q _ h => hF q h) hF (fun r u t H1 locs ht hvm hw hB hz1 hk1 hS => ?_)
  obtain ⟨hP1, hD1⟩ := hB
  rw [ht] at hP1
  obtain ⟨hP2, hD2⟩ := z_jn hP hD hF hk1 hP1 hD1
  exact kk r u H1 locs hw hP2 hD2 hS
theorem z_lv {G : zG} {w wr : va_W} {post : va_W → Prop} (hr : va_Run p l e R s m args below meth c H locs cells slots mc ms (F0 m pc ls st0) rest (va_Qv post (zB G (va_A w H.size)) (va_A w H.size) a) (va_A w H.size)) (hP : va_P G.1 vwCl (w ++ wr) H) (hD : va_D A0 (w ++ wr)) (hS : va_S A0 H0 H locs) (hA : ∀ q, H0.size ≤ q → A0 q)
    (kk : ∀ (w1 : va_W) (H : Heap) (locs : List Loc), post w1 → va_P G.1 vwCl (w1 ++ wr) H → va_D A0 (w1 ++ wr) → va_S A0 H0 H locs → W p l e R s m args below meth c H locs (cells + mc) (slots + ms) Q (F0 m (pc + 3) ls rest)) : W p l e R s m args below meth c H locs cells slots Q (F0 m pc ls st0) := by
  have hF := z_in (G := G) (z_dL hD) hS hA
  refine va_callv hr hS (fun q _ h => hF q h) hF (fun u t H1 locs ht hvm hw hB hz1 hk1 hS => ?_)
  obtain ⟨hP1, hD1⟩ := hB
  rw [ht] at hP1
  obtain ⟨hP2, hD2⟩ := z_jn hP hD hF hk1 hP1 hD1
  exact kk u H1 locs hw hP2 hD2 hS
/-- a call of the class that may throw; the rest of the world stands aside -/
theorem z_xi {G : zG} {w wr : va_W} {post : Int32 → va_W → Prop} {Lx : List String} {k : Int32} (hr : vx_Run p l e R s m args below meth c H locs cells slots mc ms (F0 m pc ls st0) rest (va_Qi post (zB G (va_A w H.size)) (va_A w H.size) a) (zXk Lx k) (va_A w H.size)) (hP : va_P G.1 vwCl (w ++ wr) H) (hD : va_D A0 (w ++ wr)) (hS : va_S A0 H0 H locs) (hA : ∀ q, H0.size ≤ q → A0 q)
    (kx : ∀ (i : Nat) (E : String) (ce : Cell) (q9 : Addr) (H1 : Heap) (locs1 : List Loc), k = nI (i + 1) → Lx[i]? = some E → va_P G.1 vwCl (w ++ wr) H1 → va_S A0 H0 H1 locs1 → H1[q9]? = some ce → ce.vm = .none → s.vm.findClass E = some ce.cls → vx_W p l e R s m args below meth c H1 locs1 (cells + mc) (slots + ms) Q (F0 m pc ls rest) q9)
    (kk : ∀ (r : Int32) (w1 : va_W) (H : Heap) (locs : List Loc), post r w1 → va_P G.1 vwCl (w1 ++ wr) H → va_D A0 (w1 ++ wr) → va_S A0 H0 H locs → W p l e R s m args below meth c H locs (cells + mc) (slots + ms) Q (F0 m (pc + 3) ls (.int r :: rest))) : W p l e R s m args below meth c H locs cells slots Q (F0 m pc ls st0) := by
  have hF := z_in (G := G) (z_dL hD) hS hA
  refine vx_calli hr hS (fun q _ h => hF q h) hF (fun q _ h => h.elim) (fun E ce q9 u t H1 locs1 ht hvm hpx hE hz1 hk1 hS1 hce hcv hcl => ?_) (fun r u t H1 locs1 ht hvm hw hB hz1 hk1 hS1 => ?_)
  · exact kx u E ce q9 H1 locs1 hpx hE (hP.kept (fun k q hq => hk1 q.1 (hP k q hq).lt id)) hS1 hce hcv hcl
  · obtain ⟨hP1, hD1⟩ := hB
    rw [ht] at hP1
    obtain ⟨hP2, hD2⟩ := z_jn hP hD hF hk1 hP1 hD1
    exact kk r u H1 locs1 hw hP2 hD2 hS1
theorem z_xv {G : zG} {w wr : va_W} {post : va_W → Prop} {Lx : List String} {k : Int32} (hr : vx_Run p l e R s m args below meth c H locs cells slots mc ms (F0 m pc ls st0) rest (va_Qv post (zB G (va_A w H.size)) (va_A w H.size) a) (zXk Lx k) (va_A w H.size)) (hP : va_P G.1 vwCl (w ++ wr) H) (hD : va_D A0 (w ++ wr)) (hS : va_S A0 H0 H locs) (hA : ∀ q, H0.size ≤ q → A0 q)
    (kx : ∀ (i : Nat) (E : String) (ce : Cell) (q9 : Addr) (H1 : Heap) (locs1 : List Loc), k = nI (i + 1) → Lx[i]? = some E → va_P G.1 vwCl (w ++ wr) H1 → va_S A0 H0 H1 locs1 → H1[q9]? = some ce → ce.vm = .none → s.vm.findClass E = some ce.cls → vx_W p l e R s m args below meth c H1 locs1 (cells + mc) (slots + ms) Q (F0 m pc ls rest) q9)
    (kk : ∀ (w1 : va_W) (H : Heap) (locs : List Loc), post w1 → va_P G.1 vwCl (w1 ++ wr) H → va_D A0 (w1 ++ wr) → va_S A0 H0 H locs → W p l e R s m args below meth c H locs (cells + mc) (slots + ms) Q (F0 m (pc + 3) ls rest)) : W p l e R s m args below meth c H locs cells slots Q (F0 m pc ls st0) := by
  have hF := z_in (G := G) (z_dL hD) hS hA
  refine vx_callv hr hS (fun q _ h => hF q h) hF (fun q _ h => h.elim) (fun E ce q9 u t H1 locs1 ht hvm hpx hE hz1 hk1 hS1 hce hcv hcl => ?_) (fun u t H1 locs1 ht hvm hw hB hz1 hk1 hS1 => ?_)
  · exact kx u E ce q9 H1 locs1 hpx hE (hP.kept (fun k q hq => hk1 q.1 (hP k q hq).lt id)) hS1 hce hcv hcl
  · obtain ⟨hP1, hD1⟩ := hB
    rw [ht] at hP1
    obtain ⟨hP2, hD2⟩ := z_jn hP hD hF hk1 hP1 hD1
    exact kk u H1 locs1 hw hP2 hD2 hS1
/-- the answer is laid into the law's cell -/
theorem z_lay {G : zG} {w : va_W} {o : Nat} {f : Nat → Int64} {v : Int64} (hexec : p.tables.exec = Jvm.exec) (hb : c.code = cc) (hK : va_K G.1 vwCl (zT G.2) s) (hP : va_P G.1 vwCl (w ++ ([(o, zOut G f)] : va_W)) H) (hD : va_D A0 (w ++ ([(o, zOut G f)] : va_W))) (hS : va_S A0 H0 H locs) (hdg : decode cc pc = .ok (.lastore, 1))
    (kk : ∀ (H : Heap) (locs : List Loc), va_P G.1 vwCl (w ++ ([(o, zOut G (vp_updL f 0 v))] : va_W)) H → va_D A0 (w ++ ([(o, zOut G (vp_updL f 0 v))] : va_W)) → va_S A0 H0 H locs → W p l e R s m args below meth c H locs cells slots Q (F0 m (pc + 1) ls rest)) : W p l e R s m args below meth c H locs cells slots Q (F0 m pc ls (.long v :: .int 0 :: .ref o :: rest)) := by
  refine va_last hexec hb hK hP hD hS w.length 1 z_atx rfl (vp_in_nI (n := 0) (by decide) (by decide)) hdg (fun Hz Lz hP hD hS => ?_)
  rw [z_setx] at hP hD
  exact kk Hz Lz hP hD hS
/-- one int of the script -/
theorem z_arg {A : Nat → Prop} (hexec : p.tables.exec = Jvm.exec) (hb : c.code = cc) {b L : Nat} {xs : Nat → Int32} (hX : va_X b L xs s H0) (hbl : b < H0.size) (hbA : ¬ A b) (hS : va_S A H0 H locs) {i k : Nat} {kn : Int} {v : Int32} (l0 : ls[0]? = some (.val (.ref b))) (l4 : ls[4]? = some (.val (.int (nI i)))) (hk : Int32.ofInt kn = nI k) (hi : i + k < L) (hL : L ≤ 3072) (hv : v = xs (i + k))
    (d0 : decode cc pc = .ok (.aload_n 0, 1)) (d1 : decode cc (pc + 1) = .ok (.iload 4, 2)) (d2 : decode cc (pc + 3) = .ok (.iconst kn, 1)) (d3 : decode cc (pc + 4) = .ok (.iadd, 1)) (d4 : decode cc (pc + 5) = .ok (.iaload, 1))
    (kk : W p l e R s m args below meth c H locs cells slots Q (F0 m (pc + 6) ls (.int v :: rest))) : W p l e R s m args below meth c H locs cells slots Q (F0 m pc ls rest) := by
  refine lv_aload_n hexec hb d0 rfl l0 ?_
  refine lv_iload hexec hb d1 l4 ?_
  refine lv_iconst (v := nI k) hexec hb d2 hk ?_
  refine lv_iadd hexec hb d3 ?_
  rw [nI_add]
  refine va_sld hexec hb hX hbl hbA hS (vp_in_nI hi (by omega)) d4 ?_
  rw [nI_clamp (by omega), ← hv]
  exact kk
/-- whether it is not 0 -/
theorem z_bo (hexec : p.tables.exec = Jvm.exec) (hb : c.code = cc) {x : Int32} (d0 : decode cc pc = .ok (.ifCond .eq 7, 3)) (d1 : decode cc (pc + 3) = .ok (.iconst 1, 1)) (d2 : decode cc (pc + 4) = .ok (.goto 4, 3)) (d3 : decode cc (pc + 7) = .ok (.iconst 0, 1))
    (kk : W p l e R s m args below meth c H locs cells slots Q (F0 m (pc + 8) ls (.int (zb (!decide (x = 0))) :: rest))) : W p l e R s m args below meth c H locs cells slots Q (F0 m pc ls (.int x :: rest)) := by
  refine lv_if_eq (tgt := pc + 7) hexec hb d0 (by omega) (fun h => ?_) (fun h => ?_)
  · refine lv_iconst (v := 0) hexec hb d3 (by decide) ?_
    rw [decide_eq_true h] at kk
    exact kk
  · refine lv_iconst (v := 1) hexec hb d1 (by decide) ?_
    refine lv_goto (tgt := pc + 8) hexec hb d2 (by omega) ?_
    rw [decide_eq_false h] at kk
    exact kk
/-- a truth as a long -/
theorem z_bl (hexec : p.tables.exec = Jvm.exec) (hb : c.code = cc) {x : Int32} (d0 : decode cc pc = .ok (.ifCond .eq 7, 3)) (d1 : decode cc (pc + 3) = .ok (.lconst 1, 1)) (d2 : decode cc (pc + 4) = .ok (.goto 4, 3)) (d3 : decode cc (pc + 7) = .ok (.lconst 0, 1))
    (kk : W p l e R s m args below meth c H locs cells slots Q (F0 m (pc + 8) ls (.long (zL1 x) :: rest))) : W p l e R s m args below meth c H locs cells slots Q (F0 m pc ls (.int x :: rest)) := by
  refine lv_if_eq (tgt := pc + 7) hexec hb d0 (by omega) (fun h => ?_) (fun h => ?_)
  · refine lv_lconst (v := 0) hexec hb d3 (by decide) ?_
    rw [zL1, if_pos h] at kk
    exact kk
  · refine lv_lconst (v := 1) hexec hb d1 (by decide) ?_
    refine lv_goto (tgt := pc + 8) hexec hb d2 (by omega) ?_
    rw [zL1, if_neg h] at kk
    exact kk
end ZLC
theorem zch {v : Int32} : ∃ x : Nat, x < 65536 ∧ (v.toUInt32 % 65536).toInt32 = nI x := by
  refine ⟨(v.toUInt32 % 65536).toNat, ?_, ?_⟩
  · rw [UInt32.toNat_mod]
    exact Nat.mod_lt _ (by decide)
  · generalize (v.toUInt32 % 65536) = u
    apply Int32.toBitVec_inj.mp
    apply BitVec.eq_of_toNat_eq
    rw [UInt32.toBitVec_toInt32]
    show u.toNat = (BitVec.ofNat 32 u.toNat).toNat
    rw [BitVec.toNat_ofNat]
    exact (Nat.mod_eq_of_lt u.toNat_lt).symm
theorem zcmp {x y : Int64} (h : x = y) : lg_cmp x y = 0 := by
  subst h
  simp [lg_cmp]
/-- what a whole script's calls want at most -/
def zLc (K : Nat) (N : Nat → Nat) : Nat := 100 + 8 * K + zpc (N 1)
def zLs (K : Nat) (N : Nat → Nat) : Nat := 20000 + 200 * K + zps (N 1)
theorem sGo_1 {N : Nat → Nat} {T : Nat → Nat → Int32} {K : Nat} (h : sGo N T K) (hK : K ≤ 512) : N 1 ≤ 20522 := by
  obtain ⟨⟨h0, h2, h3, h4, h5, h6, h1⟩, -⟩ := h.1
  have a1 : N 3 * N 0 ≤ 10 * 2000 := Nat.mul_le_mul h3 h0
  have a2 : sAns T (N 3) ≤ N 3 := sCnt_le _ _
  omega
theorem zLc_le {N : Nat → Nat} {T : Nat → Nat → Int32} {K : Nat} (h : sGo N T K) (hK : K ≤ 512) : zLc K N + 30000 ≤ 601024 ∧ zLs K N + 200000 ≤ 7293034 := by
  have h1 := sGo_1 h hK
  have a := zpc_top (N 1)
  have b := zps_top (N 1)
  have d := zcap_top (N 1)
  unfold zLc zLs
  omega
theorem zRk8 {N : Nat → Nat} {T : Nat → Nat → Int32} {K : Nat} (h : sGo N T K) (hK : K ≤ 511) : zLc K N + 8 ≤ 601024 ∧ zLs K N + 200 ≤ 7293034 := by
  have := zLc_le h (by omega)
  omega
theorem zRk0 {N : Nat → Nat} {T : Nat → Nat → Int32} {K : Nat} (h : sGo N T K) (hK : K ≤ 511) : zLc K N + 0 ≤ 601024 ∧ zLs K N + 0 ≤ 7293034 := by
  have := zLc_le h (by omega)
  omega
theorem zRk {N : Nat → Nat} {T : Nat → Nat → Int32} {K : Nat} (h : sGo N T K) (hK : K ≤ 511) {N2 : Nat → Nat} {T2 : Nat → Nat → Int32} {k : Int32} (h2 : k = 0 → sGo N2 T2 (K + 1)) : zLc K N + (8 + zmc k (N 1) (N2 1)) ≤ 601024 ∧ zLs K N + (200 + zms k (N 1) (N2 1)) ≤ 7293034 := by
  have h1 := zLc_le h (by omega)
  by_cases c : k = 0
  · have h3 := sGo_1 (h2 c) (by omega)
    have a := zpc_top (N2 1)
    have b := zps_top (N2 1)
    have d := zcap_top (N2 1)
    rw [zmc_0 c, zms_0 c]
    omega
  · rw [zmc, zms, if_neg c, if_neg c]
    omega
theorem zUp0 {N N2 : Nat → Nat} {K : Nat} {k : Int32} (hk : k = 0) (h : N 1 ≤ N2 1) : zLc K N + (8 + zmc k (N 1) (N2 1)) ≤ zLc (K + 1) N2 ∧ zLs K N + (200 + zms k (N 1) (N2 1)) ≤ zLs (K + 1) N2 := by
  have a := zpc_m h
  have b := zps_m h
  rw [zmc_0 hk, zms_0 hk]
  unfold zLc zLs
  omega
theorem zUpn {N : Nat → Nat} {K a b : Nat} {k : Int32} (hk : ¬ k = 0) : zLc K N + (8 + zmc k a b) ≤ zLc (K + 1) N ∧ zLs K N + (200 + zms k a b) ≤ zLs (K + 1) N := by
  rw [zmc, zms, if_neg hk, if_neg hk]
  unfold zLc zLs
  omega
theorem zUp8 {N N2 : Nat → Nat} {K : Nat} (h : N2 1 = N 1) : zLc K N + 8 ≤ zLc (K + 1) N2 ∧ zLs K N + 200 ≤ zLs (K + 1) N2 := by
  unfold zLc zLs
  rw [h]
  omega
theorem zUpo {N N2 : Nat → Nat} {K : Nat} (h : N2 1 = N 1) : zLc K N ≤ zLc (K + 1) N2 ∧ zLs K N ≤ zLs (K + 1) N2 := by
  unfold zLc zLs
  rw [h]
  omega
theorem m_note {N : Nat → Nat} {T : Nat → Nat → Int32} {x y z : Int32} : N 1 ≤ (sNote N T x y z).1 1 := Nat.le_succ (N 1)
theorem m_turn {N : Nat → Nat} {T : Nat → Nat → Int32} {a b : Int32} {o : Bool} : N 1 ≤ (sTurn N T a b o).1 1 := by
  unfold sTurn
  split
  · exact Nat.le_refl _
  · exact m_note (T := va_up T 3 _)
theorem m_assign {N : Nat → Nat} {T : Nat → Nat → Int32} {a b : Int32} : N 1 ≤ (sAssign N T a b).1 1 := by
  unfold sAssign
  split
  · exact Nat.le_refl _
  · exact m_note (T := va_up T 18 _)
theorem m_take {N : Nat → Nat} {T : Nat → Nat → Int32} {a b : Int32} : N 1 ≤ (nTake N T a b).1 1 := by
  unfold nTake
  split
  · exact m_note (T := va_up T 10 _)
  · exact Nat.le_refl _
theorem m_post {N : Nat → Nat} {T : Nat → Nat → Int32} {a : Int32} (_ : N 5 ≤ 60) : N 1 ≤ (nPost N T a).1 1 := by
  have h : (nPost0 N T a).1 1 = N 1 := by
    unfold nPost0
    dsimp only
    rw [va_up_ne _ _ (by omega), va_up_ne _ _ (by omega), va_up_ne _ _ (by omega)]
    split
    · rw [va_up_ne _ _ (by omega)]
    · rfl
  have h2 := m_assign (N := (nPost0 N T a).1) (T := (nPost0 N T a).2) (a := rPost N a) (b := sMeant (T 17) (N 4))
  rw [h] at h2
  exact h2
theorem m_raise {N : Nat → Nat} {T : Nat → Nat → Int32} {a : Nat} : N 1 ≤ (sRaise N T a).1 1 := by
  unfold sRaise
  split
  · exact m_note (T := T)
  · exact Nat.le_refl _
theorem m_watch {N : Nat → Nat} {T : Nat → Nat → Int32} {a : Nat} : N 1 ≤ (sWatch N T a).1 1 := by
  unfold sWatch
  split
  · exact Nat.le_refl _
  · split
    · exact Nat.le_refl _
    · have h1 := m_raise (N := N) (T := T) (a := a)
      generalize sRaise N T a = S at h1 ⊢
      unfold sWatch1
      split
      · exact Nat.le_trans h1 (m_turn (N := S.1) (T := S.2))
      · exact h1
theorem m_watches {N : Nat → Nat} {T : Nat → Nat → Int32} : ∀ {a : Nat}, N 1 ≤ (sWatches a N T).1 1
  | 0 => Nat.le_refl _
  | a + 1 => Nat.le_trans (m_watches (a := a)) (m_watch (N := (sWatches a N T).1) (T := (sWatches a N T).2) (a := a))
theorem m_hour {N : Nat → Nat} {T : Nat → Nat → Int32} : N 1 ≤ (sHour N T).1 1 := by
  obtain ⟨g1, -, -, -⟩ := sLeads_same (N := N) (T := T) (i := 8)
  have h := m_watches (N := (sLeads 8 N T).1) (T := (sLeads 8 N T).2) (a := (sLeads 8 N T).1 3)
  rw [g1] at h
  unfold sHour
  dsimp only
  rw [va_up_ne _ _ (by omega), g1]
  exact h
theorem m_hours {N : Nat → Nat} {T : Nat → Nat → Int32} : ∀ {k : Nat}, N 1 ≤ (sHours k N T).1 1
  | 0 => Nat.le_refl _
  | k + 1 => Nat.le_trans (m_hours (k := k)) (m_hour (N := (sHours k N T).1) (T := (sHours k N T).2))
/-! what the law's cases stand on -/
def zLA (p : Program) (s : State) (m : MethodId) (c : Code) (b L : Nat) (xs : Nat → Int32) : Prop :=
  p.tables.exec = Jvm.exec ∧ c.code = code ∧ c.maxLocals = 7 ∧ s.vm.findClass RL = some m.cls ∧ (∀ w ∈ wsL_law, w.before #[Value.ref b] s = true) ∧ va_X b L xs s s.heap ∧ b < s.heap.size
def zLe (G : zG) (d : Nat) (s : State) : Prop := va_K G.1 vwCl (zT G.2) s ∧ zCe (fun a : Nat => s.heap.size ≤ a) d s s.heap ∧ zLx s
/-- the world at the law's head, behind K calls: the class's, the law's cell, the reference's, all of one (N, T) -/
def zLw (G : zG) (d : Nat) (r q : Nat → Nat) (o K : Nat) (N : Nat → Nat) (T : Nat → Nat → Int32) (wz : va_W) : Prop :=
  ∃ (A : Nat → Nat) (mc : Nat → Int32) (g : Nat → Nat → Int32) (w wm : va_W) (th : Int32) (f : Nat → Int64), wz = (w ++ ([(o, zOut G f)] : va_W)) ++ wm ∧ sCQ G d r A mc g N T w ∧ sMO G q th N T wm ∧ sGo N T K
abbrev zKK (p : Program) (l : Launch) (e : Env) (s : State) (m : MethodId) (below : List Frame) (meth : Method) (c : Code) (b : Nat) (G : zG) (d : Nat) (r q : Nat → Nat) (o K : Nat) : Prop :=
  ∀ (N2 : Nat → Nat) (T2 : Nat → Nat → Int32) (w2 : va_W) (H2 : Heap) (locs2 : List Loc) (ls2 : Array Slot), zLw G d r q o (K + 1) N2 T2 w2 → va_P G.1 vwCl w2 H2 → va_D (fun a : Nat => s.heap.size ≤ a) w2 → va_S (fun a : Nat => s.heap.size ≤ a) s.heap H2 locs2 → lv_has ls2 7 [(4, .int (nI (6 * K))), (0, .ref b), (1, .ref (r 0)), (2, .ref (q 0)), (3, .ref o)] →
    W p l e room_1 s m #[Value.ref b] below meth c H2 locs2 (zLc (K + 1) N2) (zLs (K + 1) N2) (lw_Z below #[Value.ref b] s) (F0 m 1915 ls2 [])
theorem sSm.of {N : Nat → Nat} {T : Nat → Nat → Int32} {K : Nat} (h : sInv N T K 0) : sSm N := by
  obtain ⟨⟨h0, h2, h3, h4, h5, h6, h1⟩, -⟩ := h
  exact ⟨h2, h3, h4, h5, by omega, h0⟩
theorem zan {v : Int32} : ∃ j, j < 32 ∧ v &&& 31 = nI j := by
  refine ⟨(v.toUInt32 &&& 31).toNat, ?_, ?_⟩
  · rw [UInt32.toNat_and]
    exact Nat.lt_of_le_of_lt Nat.and_le_right (by decide)
  · apply Int32.toBitVec_inj.mp
    apply BitVec.eq_of_toNat_eq
    show (v.toUInt32 &&& 31).toNat = (BitVec.ofNat 32 (v.toUInt32 &&& 31).toNat).toNat
    rw [BitVec.toNat_ofNat]
    exact (Nat.mod_eq_of_lt (UInt32.toNat_lt _)).symm
/-- six ints more are there -/
theorem zsix {K L : Nat} (hL : L ≤ 3072) (hK : K ≤ 512) (h : ¬ nI L - 6 < nI (6 * K)) : 6 * K + 6 ≤ L := by
  rcases Nat.lt_or_ge L 6 with c | c
  · have h0 : nI L - 6 < 0 := by
      rcases (show L = 0 ∨ L = 1 ∨ L = 2 ∨ L = 3 ∨ L = 4 ∨ L = 5 by omega) with rfl | rfl | rfl | rfl | rfl | rfl <;> decide
    exact absurd (Int32.lt_of_lt_of_le h0 (nI_pos' (by omega))) h
  · obtain ⟨j, rfl⟩ : ∃ j, L = j + 6 := ⟨L - 6, by omega⟩
    have e : nI (j + 6) - 6 = nI j := by
      rw [← nI_add]
      exact Int32.add_sub_cancel _ _
    rw [e, nI_ltI (by omega) (by omega)] at h
    omega
