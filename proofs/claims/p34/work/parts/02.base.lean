abbrev vwCl : List vw_C := [(RJx4a65c, TJx4a65c, 3), (RX0, TX0, 6), (RX1, TX1, 2), (RX2, TX2, 2), (RX3, TX3, 1), (RX4, TX4, 4), (RX5, TX5, 3), (RX6, TX6, 14)]
/-! worlds, contracts and calls in this claim's own words -/
def zT (cy : Nat → ClassId) : List (ClassId × FieldType) := [(cy 0, .int), (cy 1, .long), (cy 2, .boolean), (cy 3, .char), (cy 4, .object "BoilerLog$Valve"), (cy 5, .object "java/lang/Object")]
abbrev zG : Type := va_G × (Nat → ClassId)
/-- a reading method's start: the world w, the classes -/
def zPp (G : zG) (w : va_W) (U : State) : Prop := va_P G.1 vwCl w U.heap ∧ va_K G.1 vwCl (zT G.2) U
/-- a writing method's start -/
def zPu (G : zG) (w : va_W) (sz : Nat) (U : State) : Prop := U.heap.size = sz ∧ va_P G.1 vwCl w U.heap ∧ va_K G.1 vwCl (zT G.2) U ∧ va_D (fun _ => True) w
/-- what a world is behind a method -/
def zB (G : zG) (A : Nat → Prop) (w : va_W) (t : State) : Prop := va_P G.1 vwCl w t.heap ∧ va_D A w
/-- a reading method's end: a number, the heap as it was -/
def zQi (post : Int32 → Prop) : Array Value → State → Outcome → State → Prop := fun _ st oc t => ∃ r : Int32, oc = .returned (some (.int r)) ∧ post r ∧ t.heap = st.heap
def zQq (post : Option Nat → Prop) : Array Value → State → Outcome → State → Prop := fun _ st oc t => ∃ r : Option Nat, oc = .returned (some (va_rf r)) ∧ post r ∧ t.heap = st.heap
abbrev zQu (G : zG) (w : va_W) (sz : Nat) (post : Int32 → va_W → Prop) : Array Value → State → Outcome → State → Prop := va_Qi post (zB G (va_A w sz)) (va_A w sz)
abbrev zQv (G : zG) (w : va_W) (sz : Nat) (post : va_W → Prop) : Array Value → State → Outcome → State → Prop := va_Qv post (zB G (va_A w sz)) (va_A w sz)
theorem zPp.blind {G : zG} {w : va_W} {av : List Value} : FrameBlind (va_Pc av (zPp G w)) := fun a U g mk q => ⟨q.1, q.2.1, va_K.moved (u := U) (U := U.calling g mk a) (Vm.Alike.refl U.vm) q.2.2⟩
theorem zPu.blind {G : zG} {w : va_W} {sz : Nat} {av : List Value} : FrameBlind (va_Pc av (zPu G w sz)) := fun a U g mk q => ⟨q.1, q.2.1, q.2.2.1, va_K.moved (u := U) (U := U.calling g mk a) (Vm.Alike.refl U.vm) q.2.2.2.1, q.2.2.2.2⟩
section ZC
variable {p : Program} {l : Launch} {e : Env} {R : Room} {s : State} {m : MethodId} {args : Array Value} {below : List Frame} {meth : Method} {c : Code} {H : Heap} {locs : List Loc} {cells slots : Nat} {Q : State → Prop}
variable {pc : Nat} {ls : Array Slot} {rest st0 : List Value} {a : Array Value} {A0 : Nat → Prop} {H0 : Heap} {mc ms : Nat} {free : Addr → Prop}
theorem z_csi {post : Int32 → Prop} (hr : CallRun p l e R s m args below meth c H locs cells slots 0 0 (F0 m pc ls st0) rest (zQi post a) (fun _ => False))
    (kk : ∀ r : Int32, post r → W p l e R s m args below meth c H locs cells slots Q (F0 m (pc + 3) ls (.int r :: rest))) : W p l e R s m args below meth c H locs cells slots Q (F0 m pc ls st0) := by
  intro T hT X
  obtain ⟨v, st₀, t, T', L, h0, X', hL, e1, ⟨r, hv, hp, hh⟩, st⟩ := hr T hT X
  cases hv
  obtain ⟨t2, a1, b1⟩ := kk r hp T' (by rw [e1, hh, h0]) (Stand.forget X' (fun q h => (hL q h).elim))
  exact ⟨t2, st t2 a1, b1⟩
theorem z_csq {post : Option Nat → Prop} (hr : CallRun p l e R s m args below meth c H locs cells slots 0 0 (F0 m pc ls st0) rest (zQq post a) (fun _ => False))
    (kk : ∀ r : Option Nat, post r → W p l e R s m args below meth c H locs cells slots Q (F0 m (pc + 3) ls (va_rf r :: rest))) : W p l e R s m args below meth c H locs cells slots Q (F0 m pc ls st0) := by
  intro T hT X
  obtain ⟨v, st₀, t, T', L, h0, X', hL, e1, ⟨r, hv, hp, hh⟩, st⟩ := hr T hT X
  cases hv
  obtain ⟨t2, a1, b1⟩ := kk r hp T' (by rw [e1, hh, h0]) (Stand.forget X' (fun q h => (hL q h).elim))
  exact ⟨t2, st t2 a1, b1⟩
theorem z_in {G : zG} {w : va_W} {H0 H : Heap} {A0 : Nat → Prop} {locs : List Loc} (hD : va_D A0 w) (hS : va_S A0 H0 H locs) (hA : ∀ q, H0.size ≤ q → A0 q) : ∀ q, va_A w H.size q → A0 q := by
  intro q h
  rcases h with ⟨k, e, h⟩ | h
  · exact hD.2 k (q, e) h
  · exact hA q (Nat.le_trans hS.1 h)
/-- a call that gets this method's whole world: a number -/
theorem z_cui {G : zG} {w : va_W} {post : Int32 → va_W → Prop} (hr : va_Run p l e R s m args below meth c H locs cells slots mc ms (F0 m pc ls st0) rest (zQu G w H.size post a) (va_A w H.size)) (hD : va_D A0 w) (hS : va_S A0 H0 H locs) (hA : ∀ q, H0.size ≤ q → A0 q)
    (kk : ∀ (r : Int32) (w' : va_W) (H : Heap) (locs : List Loc), post r w' → va_P G.1 vwCl w' H → va_D A0 w' → va_S A0 H0 H locs → W p l e R s m args below meth c H locs (cells + mc) (slots + ms) Q (F0 m (pc + 3) ls (.int r :: rest))) : W p l e R s m args below meth c H locs cells slots Q (F0 m pc ls st0) := by
  have hF := z_in (G := G) hD hS hA
  refine va_calli hr hS (fun q _ h => hF q h) hF (fun r u t H1 locs ht hvm hw hB hz1 hk1 hS => ?_)
  obtain ⟨hP1, hD1⟩ := hB
  rw [ht] at hP1
  exact kk r u H1 locs hw hP1 (hD1.weaken (fun _ _ _ h => hF _ h)) hS
theorem z_cuv {G : zG} {w : va_W} {post : va_W → Prop} (hr : va_Run p l e R s m args below meth c H locs cells slots mc ms (F0 m pc ls st0) rest (zQv G w H.size post a) (va_A w H.size)) (hD : va_D A0 w) (hS : va_S A0 H0 H locs) (hA : ∀ q, H0.size ≤ q → A0 q)
    (kk : ∀ (w' : va_W) (H : Heap) (locs : List Loc), post w' → va_P G.1 vwCl w' H → va_D A0 w' → va_S A0 H0 H locs → W p l e R s m args below meth c H locs (cells + mc) (slots + ms) Q (F0 m (pc + 3) ls rest)) : W p l e R s m args below meth c H locs cells slots Q (F0 m pc ls st0) := by
  have hF := z_in (G := G) hD hS hA
  refine va_callv hr hS (fun q _ h => hF q h) hF (fun u t H1 locs ht hvm hw hB hz1 hk1 hS => ?_)
  obtain ⟨hP1, hD1⟩ := hB
  rw [ht] at hP1
  exact kk u H1 locs hw hP1 (hD1.weaken (fun _ _ _ h => hF _ h)) hS
/-- what a call of a reading method wants -/
theorem z_ps {G : zG} {w : va_W} {As : List Value} (hK : va_K G.1 vwCl (zT G.2) s) (hP : va_P G.1 vwCl w H) : PreS s H (va_Pc As (zPp G w)) As :=
  ⟨zPp.blind, fun U hU hW => ⟨rfl, by rw [hU]; exact hP, va_K.moved hW.alike hK⟩⟩
theorem z_pv {G : zG} {w wa : va_W} {As : List Value} {C : String} {b ci q0 : Nat} {T : u_T} {N : Nat} {fs : List Value} (hK : va_K G.1 vwCl (zT G.2) s) (hPa : va_P G.1 vwCl wa H) (hc : vwCl[ci]? = some (C, T, N)) (he : wa[q0]? = some (b, .inr (ci, fs))) (hP : va_P G.1 vwCl w H) : PreV s H C b (va_Pc (.ref b :: As) (zPp G w)) As :=
  ⟨zPp.blind, va_recv hK hPa hc he, fun U hU hW => ⟨rfl, by rw [hU]; exact hP, va_K.moved hW.alike hK⟩⟩
theorem z_us {G : zG} {w : va_W} {As : List Value} (hK : va_K G.1 vwCl (zT G.2) s) (hP : va_P G.1 vwCl w H) (hD : va_D A0 w) : PreS s H (va_Pc As (zPu G w H.size)) As :=
  ⟨zPu.blind, fun U hU hW => ⟨rfl, by rw [hU], by rw [hU]; exact hP, va_K.moved hW.alike hK, hD.weaken (fun _ _ _ _ => trivial)⟩⟩
theorem z_uv {G : zG} {w wa : va_W} {As : List Value} {C : String} {b ci q0 : Nat} {T : u_T} {N : Nat} {fs : List Value} (hK : va_K G.1 vwCl (zT G.2) s) (hPa : va_P G.1 vwCl wa H) (hc : vwCl[ci]? = some (C, T, N)) (he : wa[q0]? = some (b, .inr (ci, fs))) (hP : va_P G.1 vwCl w H) (hD : va_D A0 w) : PreV s H C b (va_Pc (.ref b :: As) (zPu G w H.size)) As :=
  ⟨zPu.blind, va_recv hK hPa hc he, fun U hU hW => ⟨rfl, by rw [hU], by rw [hU]; exact hP, va_K.moved hW.alike hK, hD.weaken (fun _ _ _ _ => trivial)⟩⟩
end ZC
def zb (b : Bool) : Int32 := if b then 1 else 0
theorem zb_0 {b : Bool} : zb b = 0 ↔ b = false := by cases b <;> decide
theorem zb_1 {b : Bool} : zb b = 1 ↔ b = true := by cases b <;> decide
theorem zb_t : zb true = 1 := rfl
theorem zb_f : zb false = 0 := rfl
theorem zn_zb (b : Bool) : narrow .boolean (.int (zb b)) = .int (zb b) := by cases b <;> rfl
theorem zb_eq {a b : Bool} : zb a = zb b ↔ a = b := by cases a <;> cases b <;> decide
theorem zb_ne {a b : Bool} (h : ¬ zb a = zb b) : ¬ a = b := fun z => h (zb_eq.mpr z)
