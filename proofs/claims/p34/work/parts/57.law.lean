/-! the law: what it takes as given beside the class's environment, its world and its calls -/
def zEx : Nat → String
  | 0 => "java/lang/IndexOutOfBoundsException"
  | 1 => "java/lang/IllegalArgumentException"
  | _ => "java/lang/IllegalStateException"
def zLx (U : State) : Prop := (∀ i, i < 3 → va_Nw (.castable (zEx i) (zEx i)) U) ∧ ∀ i j, i < 3 → j < 3 → i ≠ j → va_Nc (zEx i) (zEx j) U
theorem zLx.moved {u U : State} (hvm : u.vm.Alike U.vm) (h : zLx u) : zLx U :=
  ⟨fun i hi => va_tabs rfl (rfl : (u.setVm U.vm).vm = U.vm) (by rw [Cond.castable_setVm hvm]; exact h.1 i hi), fun i j hi hj hij => va_Nc.moved hvm (h.2 i j hi hj hij)⟩
def zHu (G : zG) (d : Nat) (w : va_W) (sz : Nat) (U : State) : Prop := zCu G d w sz U ∧ zLx U
theorem zHu.blind {G : zG} {d : Nat} {w : va_W} {sz : Nat} {av : List Value} : FrameBlind (va_Pc av (zHu G d w sz)) := fun a U g mk q => ⟨q.1, (zCu.blind (G := G) (d := d) (w := w) (sz := sz) (av := av) a U g mk ⟨q.1, q.2.1⟩).2, zLx.moved (u := U) (U := U.calling g mk a) (Vm.Alike.refl U.vm) q.2.2⟩
/-- the law's own cell: what the last call of the class answered -/
abbrev zOut (G : zG) (f : Nat → Int64) : va_E := .inl (G.2 1, 1, .inr (.inl f))
def zL1 (x : Int32) : Int64 := if x = 0 then 0 else 1
/-- behind a call through the law: what is thrown, what lies in its cell, the class's next state -/
def zHq (G : zG) (d : Nat) (r : Nat → Nat) (o : Nat) (k : Int32) (a : Int64) (N : Nat → Nat) (T : Nat → Nat → Int32) (N2 : Nat → Nat) (T2 : Nat → Nat → Int32) (w1 : va_W) : Prop :=
  ∃ (w2 : va_W) (f2 : Nat → Int64), w1 = w2 ++ ([(o, zOut G f2)] : va_W) ∧ (k = 0 → f2 0 = a ∧ sCO G d r N2 T2 w2) ∧ (¬ k = 0 → sCO G d r N T w2)
theorem z_apL {D : va_G} {cl : List vw_C} {a b : va_W} {H : Heap} (h : va_P D cl (a ++ b) H) : va_P D cl a H := fun k q hk => h k q (by rw [List.getElem?_append_left (List.getElem?_eq_some_iff.mp hk).1]; exact hk)
theorem z_apR {D : va_G} {cl : List vw_C} {a b : va_W} {H : Heap} (h : va_P D cl (a ++ b) H) : va_P D cl b H := fun k q hk => h (a.length + k) q (by rw [List.getElem?_append_right (Nat.le_add_right _ _), Nat.add_sub_cancel_left]; exact hk)
theorem z_ap {D : va_G} {cl : List vw_C} {a b : va_W} {H : Heap} (ha : va_P D cl a H) (hb : va_P D cl b H) : va_P D cl (a ++ b) H := by
  intro k q hk
  by_cases c : k < a.length
  · rw [List.getElem?_append_left c] at hk; exact ha k q hk
  · rw [List.getElem?_append_right (by omega)] at hk; exact hb _ q hk
theorem z_dL {A : Nat → Prop} {a b : va_W} (h : va_D A (a ++ b)) : va_D A a := by
  have e : ∀ (k : Nat) (q : Nat × va_E), a[k]? = some q → (a ++ b)[k]? = some q := fun k q hk => by rw [List.getElem?_append_left (List.getElem?_eq_some_iff.mp hk).1]; exact hk
  exact ⟨fun i j p q hi hj hpq => h.1 i j p q (e i p hi) (e j q hj) hpq, fun k q hk => h.2 k q (e k q hk)⟩
theorem z_dR {A : Nat → Prop} {a b : va_W} (h : va_D A (a ++ b)) : va_D A b := by
  have e : ∀ (k : Nat) (q : Nat × va_E), b[k]? = some q → (a ++ b)[a.length + k]? = some q := fun k q hk => by rw [List.getElem?_append_right (Nat.le_add_right _ _), Nat.add_sub_cancel_left]; exact hk
  exact ⟨fun i j p q hi hj hpq => by have := h.1 _ _ p q (e i p hi) (e j q hj) hpq; omega, fun k q hk => h.2 _ q (e k q hk)⟩
theorem z_dX {A : Nat → Prop} {a b : va_W} (h : va_D A (a ++ b)) {i j : Nat} {p q : Nat × va_E} (hi : a[i]? = some p) (hj : b[j]? = some q) : p.1 ≠ q.1 := by
  intro e
  have hl := (List.getElem?_eq_some_iff.mp hi).1
  have := h.1 i (a.length + j) p q (by rw [List.getElem?_append_left hl]; exact hi) (by rw [List.getElem?_append_right (Nat.le_add_right _ _), Nat.add_sub_cancel_left]; exact hj) e
  omega
theorem z_dsw {A : Nat → Prop} {a b : va_W} (h : va_D A (a ++ b)) : va_D A (b ++ a) := (z_dR h).app (z_dL h) (fun _ _ _ _ hi hj e => z_dX h hj hi e.symm)
theorem z_psw {D : va_G} {cl : List vw_C} {a b : va_W} {H : Heap} (h : va_P D cl (a ++ b) H) : va_P D cl (b ++ a) H := z_ap (z_apR h) (z_apL h)
/-- a part of the world has been through a call; the rest stands -/
theorem z_jn {D : va_G} {cl : List vw_C} {a a1 b : va_W} {H H1 : Heap} {A0 : Nat → Prop} (hP : va_P D cl (a ++ b) H) (hD : va_D A0 (a ++ b)) (hF : ∀ q, va_A a H.size q → A0 q) (hk : ∀ q : Nat, q < H.size → ¬ va_A a H.size q → H1[q]? = H[q]?) (hP1 : va_P D cl a1 H1) (hD1 : va_D (va_A a H.size) a1) : va_P D cl (a1 ++ b) H1 ∧ va_D A0 (a1 ++ b) := by
  have hPb := z_apR hP
  have hn : ∀ (k : Nat) (q : Nat × va_E), b[k]? = some q → q.1 < H.size ∧ ¬ va_A a H.size q.1 := fun k q hq => by
    have hl : q.1 < H.size := (hPb k q hq).lt
    refine ⟨hl, fun h => ?_⟩
    rcases h with ⟨i, y, h⟩ | h
    · exact z_dX hD h hq rfl
    · exact absurd hl (Nat.not_lt.mpr h)
  refine ⟨z_ap hP1 (hPb.kept (fun k q hq => hk q.1 (hn k q hq).1 (hn k q hq).2)), ?_⟩
  refine (hD1.weaken (fun _ q _ h => hF q.1 h)).app (z_dR hD) (fun i j p q hi hj he => (hn j q hj).2 ?_)
  rw [← he]
  exact hD1.2 i p hi
theorem z_atx {w : va_W} {x : Nat × va_E} : (w ++ ([x] : va_W))[w.length]? = some x := by rw [List.getElem?_append_right (Nat.le_refl _), Nat.sub_self]; rfl
theorem z_setx {w : va_W} {x y : Nat × va_E} : (w ++ ([x] : va_W)).set w.length y = w ++ ([y] : va_W) := by rw [List.set_append_right _ _ (Nat.le_refl _), Nat.sub_self]; rfl
section ZLC
variable {p : Program} {l : Launch} {e : Env} {R : Room} {s : State} {m : MethodId} {args : Array Value} {below : List Frame} {meth : Method} {c : Code} {H : Heap} {locs : List Loc} {cells slots : Nat} {Q : State → Prop}
variable {pc : Nat} {ls : Array Slot} {rest st0 : List Value} {a : Array Value} {A0 : Nat → Prop} {H0 : Heap} {mc ms : Nat} {cc : ByteArray}
theorem z_hs {G : zG} {d : Nat} {w : va_W} {As : List Value} (hK : va_K G.1 vwCl (zT G.2) s) (hP : va_P G.1 vwCl w H) (hD : va_D A0 w) (hZ : zCe A0 d s s.heap) (hX : zLx s) (hS : va_S A0 s.heap H locs) (hA : ∀ q, s.heap.size ≤ q → A0 q) : PreS s H (va_Pc As (zHu G d w H.size)) As :=
  ⟨zHu.blind, fun U hU hW => ⟨rfl, ((z_ws (As := As) hK hP hD hZ hS hA).2 U hU hW).2, hX.moved hW.alike⟩⟩
/-- a call that gets a part of the world -/
theorem z_li {G : zG} {w wr : va_W} {post : Int32 → va_W → Prop} (hr : va_Run p l e R s m args below meth c H locs cells slots mc ms (F0 m pc ls st0) rest (va_Qi post (zB G (va_A w H.size)) (va_A w H.size) a) (va_A w H.size)) (hP : va_P G.1 vwCl (w ++ wr) H) (hD : va_D A0 (w ++ wr)) (hS : va_S A0 H0 H locs) (hA : ∀ q, H0.size ≤ q → A0 q)
    (kk : ∀ (r : Int32) (w1 : va_W) (H : Heap) (locs : List Loc), post r w1 → va_P G.1 vwCl (w1 ++ wr) H → va_D A0 (w1 ++ wr) → va_S A0 H0 H locs → W p l e R s m args below meth c H locs (cells + mc) (slots + ms) Q (F0 m (pc + 3) ls (.int r :: rest))) : W p l e R s m args below meth c H locs cells slots Q (F0 m pc ls st0) := by
  have hF := z_in (G := G) (z_dL hD) hS hA
  refine va_calli hr hS (fun q _ h => hF q h) hF (fun r u t H1 locs ht hvm hw hB hz1 hk1 hS => ?_)
  obtain ⟨hP1, hD1⟩ := hB
  rw [ht] at hP1
  obtain ⟨hP2, hD2⟩ := z_jn hP hD hF hk1 hP1 hD1
  exact kk r u H1 locs hw hP2 hD2 hS
theorem z_lv {G : zG} {w wr : va_W} {post : va_W → Prop} (hr : va_Run p l e R s m args below meth c H locs cells slots mc ms (F0 m pc ls st0) rest (va_Qv post (zB G (va_A w H.size)) (va_A w H.size) a) (va_A w H.size)) (hP : va_P G.1 vwCl (w ++ wr) H) (hD : va_D A0 (w ++ wr)) (hS : va_S A0 H0 H locs) (hA : ∀ q, H0.size ≤ q → A0 q)
    (kk : ∀ (w1 : va_W) (H : Heap) (locs : List Loc), post w1 → va_P G.1 vwCl (w1 ++ wr) H → va_D A0 (w1 ++ wr) → va_S A0 H0 H locs → W p l e R s m args below meth c H locs (cells + mc) (slots + ms) Q (F0 m (pc + 3) ls rest)) : W p l e R s m args below meth c H locs cells slots Q (F0 m pc ls st0) := by
  have hF := z_in (G := G) (z_dL hD) hS hA
  refine va_callv hr hS (fun q _ h => hF q h) hF (fun u t H1 locs ht hvm hw hB hz1 hk1 hS => ?_)
  obtain ⟨hP1, hD1⟩ := hB
  rw [ht] at hP1
  obtain ⟨hP2, hD2⟩ := z_jn hP hD hF hk1 hP1 hD1
  exact kk u H1 locs hw hP2 hD2 hS
/-- a call of the class that may throw; the rest of the world stands aside -/
theorem z_xi {G : zG} {w wr : va_W} {post : Int32 → va_W → Prop} {Lx : List String} {k : Int32} (hr : vx_Run p l e R s m args below meth c H locs cells slots mc ms (F0 m pc ls st0) rest (va_Qi post (zB G (va_A w H.size)) (va_A w H.size) a) (zXk Lx k) (va_A w H.size)) (hP : va_P G.1 vwCl (w ++ wr) H) (hD : va_D A0 (w ++ wr)) (hS : va_S A0 H0 H locs) (hA : ∀ q, H0.size ≤ q → A0 q)
    (kx : ∀ (i : Nat) (E : String) (ce : Cell) (q9 : Addr) (H1 : Heap) (locs1 : List Loc), k = nI (i + 1) → Lx[i]? = some E → va_P G.1 vwCl (w ++ wr) H1 → va_S A0 H0 H1 locs1 → H1[q9]? = some ce → ce.vm = .none → s.vm.findClass E = some ce.cls → vx_W p l e R s m args below meth c H1 locs1 (cells + mc) (slots + ms) Q (F0 m pc ls rest) q9)
    (kk : ∀ (r : Int32) (w1 : va_W) (H : Heap) (locs : List Loc), post r w1 → va_P G.1 vwCl (w1 ++ wr) H → va_D A0 (w1 ++ wr) → va_S A0 H0 H locs → W p l e R s m args below meth c H locs (cells + mc) (slots + ms) Q (F0 m (pc + 3) ls (.int r :: rest))) : W p l e R s m args below meth c H locs cells slots Q (F0 m pc ls st0) := by
  have hF := z_in (G := G) (z_dL hD) hS hA
  refine vx_calli hr hS (fun q _ h => hF q h) hF (fun q _ h => h.elim) (fun E ce q9 u t H1 locs1 ht hvm hpx hE hz1 hk1 hS1 hce hcv hcl => ?_) (fun r u t H1 locs1 ht hvm hw hB hz1 hk1 hS1 => ?_)
  · exact kx u E ce q9 H1 locs1 hpx hE (hP.kept (fun k q hq => hk1 q.1 (hP k q hq).lt id)) hS1 hce hcv hcl
  · obtain ⟨hP1, hD1⟩ := hB
    rw [ht] at hP1
    obtain ⟨hP2, hD2⟩ := z_jn hP hD hF hk1 hP1 hD1
    exact kk r u H1 locs1 hw hP2 hD2 hS1
theorem z_xv {G : zG} {w wr : va_W} {post : va_W → Prop} {Lx : List String} {k : Int32} (hr : vx_Run p l e R s m args below meth c H locs cells slots mc ms (F0 m pc ls st0) rest (va_Qv post (zB G (va_A w H.size)) (va_A w H.size) a) (zXk Lx k) (va_A w H.size)) (hP : va_P G.1 vwCl (w ++ wr) H) (hD : va_D A0 (w ++ wr)) (hS : va_S A0 H0 H locs) (hA : ∀ q, H0.size ≤ q → A0 q)
    (kx : ∀ (i : Nat) (E : String) (ce : Cell) (q9 : Addr) (H1 : Heap) (locs1 : List Loc), k = nI (i + 1) → Lx[i]? = some E → va_P G.1 vwCl (w ++ wr) H1 → va_S A0 H0 H1 locs1 → H1[q9]? = some ce → ce.vm = .none → s.vm.findClass E = some ce.cls → vx_W p l e R s m args below meth c H1 locs1 (cells + mc) (slots + ms) Q (F0 m pc ls rest) q9)
    (kk : ∀ (w1 : va_W) (H : Heap) (locs : List Loc), post w1 → va_P G.1 vwCl (w1 ++ wr) H → va_D A0 (w1 ++ wr) → va_S A0 H0 H locs → W p l e R s m args below meth c H locs (cells + mc) (slots + ms) Q (F0 m (pc + 3) ls rest)) : W p l e R s m args below meth c H locs cells slots Q (F0 m pc ls st0) := by
  have hF := z_in (G := G) (z_dL hD) hS hA
  refine vx_callv hr hS (fun q _ h => hF q h) hF (fun q _ h => h.elim) (fun E ce q9 u t H1 locs1 ht hvm hpx hE hz1 hk1 hS1 hce hcv hcl => ?_) (fun u t H1 locs1 ht hvm hw hB hz1 hk1 hS1 => ?_)
  · exact kx u E ce q9 H1 locs1 hpx hE (hP.kept (fun k q hq => hk1 q.1 (hP k q hq).lt id)) hS1 hce hcv hcl
  · obtain ⟨hP1, hD1⟩ := hB
    rw [ht] at hP1
    obtain ⟨hP2, hD2⟩ := z_jn hP hD hF hk1 hP1 hD1
    exact kk u H1 locs1 hw hP2 hD2 hS1
/-- the answer is laid into the law's cell -/
theorem z_lay {G : zG} {w : va_W} {o : Nat} {f : Nat → Int64} {v : Int64} (hexec : p.tables.exec = Jvm.exec) (hb : c.code = cc) (hK : va_K G.1 vwCl (zT G.2) s) (hP : va_P G.1 vwCl (w ++ ([(o, zOut G f)] : va_W)) H) (hD : va_D A0 (w ++ ([(o, zOut G f)] : va_W))) (hS : va_S A0 H0 H locs) (hdg : decode cc pc = .ok (.lastore, 1))
    (kk : ∀ (H : Heap) (locs : List Loc), va_P G.1 vwCl (w ++ ([(o, zOut G (vp_updL f 0 v))] : va_W)) H → va_D A0 (w ++ ([(o, zOut G (vp_updL f 0 v))] : va_W)) → va_S A0 H0 H locs → W p l e R s m args below meth c H locs cells slots Q (F0 m (pc + 1) ls rest)) : W p l e R s m args below meth c H locs cells slots Q (F0 m pc ls (.long v :: .int 0 :: .ref o :: rest)) := by
  refine va_last hexec hb hK hP hD hS w.length 1 z_atx rfl (vp_in_nI (n := 0) (by decide) (by decide)) hdg (fun Hz Lz hP hD hS => ?_)
  rw [z_setx] at hP hD
  exact kk Hz Lz hP hD hS
/-- one int of the script -/
theorem z_arg {A : Nat → Prop} (hexec : p.tables.exec = Jvm.exec) (hb : c.code = cc) {b L : Nat} {xs : Nat → Int32} (hX : va_X b L xs s H0) (hbl : b < H0.size) (hbA : ¬ A b) (hS : va_S A H0 H locs) {i k : Nat} {kn : Int} {v : Int32} (l0 : ls[0]? = some (.val (.ref b))) (l4 : ls[4]? = some (.val (.int (nI i)))) (hk : Int32.ofInt kn = nI k) (hi : i + k < L) (hL : L ≤ 3072) (hv : v = xs (i + k))
    (d0 : decode cc pc = .ok (.aload_n 0, 1)) (d1 : decode cc (pc + 1) = .ok (.iload 4, 2)) (d2 : decode cc (pc + 3) = .ok (.iconst kn, 1)) (d3 : decode cc (pc + 4) = .ok (.iadd, 1)) (d4 : decode cc (pc + 5) = .ok (.iaload, 1))
    (kk : W p l e R s m args below meth c H locs cells slots Q (F0 m (pc + 6) ls (.int v :: rest))) : W p l e R s m args below meth c H locs cells slots Q (F0 m pc ls rest) := by
  refine lv_aload_n hexec hb d0 rfl l0 ?_
  refine lv_iload hexec hb d1 l4 ?_
  refine lv_iconst (v := nI k) hexec hb d2 hk ?_
  refine lv_iadd hexec hb d3 ?_
  rw [nI_add]
  refine va_sld hexec hb hX hbl hbA hS (vp_in_nI hi (by omega)) d4 ?_
  rw [nI_clamp (by omega), ← hv]
  exact kk
/-- whether it is not 0 -/
theorem z_bo (hexec : p.tables.exec = Jvm.exec) (hb : c.code = cc) {x : Int32} (d0 : decode cc pc = .ok (.ifCond .eq 7, 3)) (d1 : decode cc (pc + 3) = .ok (.iconst 1, 1)) (d2 : decode cc (pc + 4) = .ok (.goto 4, 3)) (d3 : decode cc (pc + 7) = .ok (.iconst 0, 1))
    (kk : W p l e R s m args below meth c H locs cells slots Q (F0 m (pc + 8) ls (.int (zb (!decide (x = 0))) :: rest))) : W p l e R s m args below meth c H locs cells slots Q (F0 m pc ls (.int x :: rest)) := by
  refine lv_if_eq (tgt := pc + 7) hexec hb d0 (by omega) (fun h => ?_) (fun h => ?_)
  · refine lv_iconst (v := 0) hexec hb d3 (by decide) ?_
    rw [decide_eq_true h] at kk
    exact kk
  · refine lv_iconst (v := 1) hexec hb d1 (by decide) ?_
    refine lv_goto (tgt := pc + 8) hexec hb d2 (by omega) ?_
    rw [decide_eq_false h] at kk
    exact kk
/-- a truth as a long -/
theorem z_bl (hexec : p.tables.exec = Jvm.exec) (hb : c.code = cc) {x : Int32} (d0 : decode cc pc = .ok (.ifCond .eq 7, 3)) (d1 : decode cc (pc + 3) = .ok (.lconst 1, 1)) (d2 : decode cc (pc + 4) = .ok (.goto 4, 3)) (d3 : decode cc (pc + 7) = .ok (.lconst 0, 1))
    (kk : W p l e R s m args below meth c H locs cells slots Q (F0 m (pc + 8) ls (.long (zL1 x) :: rest))) : W p l e R s m args below meth c H locs cells slots Q (F0 m pc ls (.int x :: rest)) := by
  refine lv_if_eq (tgt := pc + 7) hexec hb d0 (by omega) (fun h => ?_) (fun h => ?_)
  · refine lv_lconst (v := 0) hexec hb d3 (by decide) ?_
    rw [zL1, if_pos h] at kk
    exact kk
  · refine lv_lconst (v := 1) hexec hb d1 (by decide) ?_
    refine lv_goto (tgt := pc + 8) hexec hb d2 (by omega) ?_
    rw [zL1, if_neg h] at kk
    exact kk
end ZLC
theorem zch {v : Int32} : ∃ x : Nat, x < 65536 ∧ (v.toUInt32 % 65536).toInt32 = nI x := by
  refine ⟨(v.toUInt32 % 65536).toNat, ?_, ?_⟩
  · rw [UInt32.toNat_mod]
    exact Nat.mod_lt _ (by decide)
  · generalize (v.toUInt32 % 65536) = u
    apply Int32.toBitVec_inj.mp
    apply BitVec.eq_of_toNat_eq
    rw [UInt32.toBitVec_toInt32]
    show u.toNat = (BitVec.ofNat 32 u.toNat).toNat
    rw [BitVec.toNat_ofNat]
    exact (Nat.mod_eq_of_lt u.toNat_lt).symm
theorem zcmp {x y : Int64} (h : x = y) : lg_cmp x y = 0 := by
  subst h
  simp [lg_cmp]
