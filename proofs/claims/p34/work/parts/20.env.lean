/-! the class's environment, and rows of calls over its world -/
/-- the classes of what lists hold -/
def zcn (ci : Nat) : String := if ci = 5 then RX4 else if ci = 1 then RX0 else RX3
def zCast (U : State) : Prop := ∀ ci, ci = 5 ∨ ci = 1 ∨ ci = 4 → va_Nw (.castable (zcn ci) "java/lang/Object") U
theorem zCast.moved {u U : State} (hvm : u.vm.Alike U.vm) (h : zCast u) : zCast U := fun ci hci => va_tabs rfl (rfl : (u.setVm U.vm).vm = U.vm) (by rw [Cond.castable_setVm hvm]; exact h ci hci)
theorem zcn_cl {ci : Nat} (h : ci = 5 ∨ ci = 1 ∨ ci = 4) : ∃ (Tc : u_T) (n : Nat), vwCl[ci]? = some (zcn ci, Tc, n) := by
  rcases h with rfl | rfl | rfl
  · exact ⟨TX4, 4, rfl⟩
  · exact ⟨TX0, 6, rfl⟩
  · exact ⟨TX3, 1, rfl⟩
def zDe (A : Nat → Prop) (d : Nat) (U : State) (Hz : Heap) : Prop := va_Z "java/util/ArrayList" "DEFAULTCAPACITY_EMPTY_ELEMENTDATA" "[Ljava/lang/Object;" (.ref d) A U Hz ∧ va_T (.object "java/lang/Object") d 0 (fun _ => .null) A U Hz ∧ va_AO "java/lang/Object" U ∧ (∃ mi : Nat, va_Mi "[Ljava/lang/Object;" mi U) ∧ va_Dc U ∧ zCast U ∧ va_AO "BoilerLog$Valve" U
theorem zDe.moved {A : Nat → Prop} {d : Nat} {u U : State} {Hz : Heap} (hvm : u.vm.Alike U.vm) (h : zDe A d u Hz) : zDe A d U Hz := by
  obtain ⟨h1, h2, h3, ⟨mi, h4⟩, h5, h6, h7⟩ := h
  exact ⟨va_Z.moved hvm h1, va_T.moved hvm h2, va_AO.moved hvm h3, ⟨mi, va_Mi.moved hvm h4⟩, va_Dc.moved hvm h5, h6.moved hvm, va_AO.moved hvm h7⟩
def zCe (A : Nat → Prop) (d : Nat) (U : State) (Hz : Heap) : Prop := zEnv A U Hz ∧ zDe A d U Hz
theorem zCe.to {A B : Nat → Prop} {d : Nat} {s U : State} {Hz : Heap} {Lz : List Loc} (h : zCe A d s s.heap) (hS : va_S A s.heap Hz Lz) (hU : U.heap = Hz) (hW : s.WarmedH U.vm) (hAB : ∀ q, B q → A q) : zCe B d U U.heap := by
  refine ⟨h.1.to hS hU hW hAB, ?_⟩
  rw [hU]
  exact zDe.moved hW.alike ⟨(h.2.1.kept hS.2.1).narrow hAB, (h.2.2.1.kept hS.2.1).narrow hAB, h.2.2.2⟩
theorem zCe.alike {A : Nat → Prop} {d : Nat} {U U2 : State} {Hz : Heap} (hvm : U.vm = U2.vm) (h : zCe A d U Hz) : zCe A d U2 Hz := ⟨zEnv.alike hvm h.1, zDe.moved (by rw [hvm]; exact Vm.Alike.refl _) h.2⟩
/-- a writing method's start over the class's world -/
def zCu (G : zG) (d : Nat) (w : va_W) (sz : Nat) (U : State) : Prop := U.heap.size = sz ∧ va_P G.1 vwCl w U.heap ∧ va_K G.1 vwCl (zT G.2) U ∧ va_D (fun _ => True) w ∧ zCe (va_A w sz) d U U.heap
theorem zCu.blind {G : zG} {d : Nat} {w : va_W} {sz : Nat} {av : List Value} : FrameBlind (va_Pc av (zCu G d w sz)) := fun a U g mk q => ⟨q.1, q.2.1, q.2.2.1, va_K.moved (u := U) (U := U.calling g mk a) (Vm.Alike.refl U.vm) q.2.2.2.1, q.2.2.2.2.1, zCe.alike (U := U) (U2 := U.calling g mk a) rfl q.2.2.2.2.2⟩
/-- what a call that may throw does throw: the i-th of its list -/
abbrev zXk (L : List String) (k : Int32) : String → State → State → Prop := vx_X (fun i : Nat => k = nI (i + 1)) (fun E i _ => L[i]? = some E) (fun _ => False)
theorem z_SF {A0 : Nat → Prop} {H0 Hz : Heap} {Lz : List Loc} (h : va_S (fun _ => False) H0 Hz Lz) : va_S A0 H0 Hz Lz := ⟨h.1, fun q h1 _ => h.2.1 q h1 id, fun l hl => (h.2.2 l hl).elim⟩
section ZCB
variable {p : Program} {l : Launch} {e : Env} {R : Room} {s : State} {m : MethodId} {args : Array Value} {below : List Frame} {meth : Method} {c : Code} {H : Heap} {locs : List Loc} {cells slots : Nat} {Q : State → Prop}
variable {pc : Nat} {ls : Array Slot} {rest st0 : List Value} {a : Array Value} {A0 : Nat → Prop} {H0 : Heap} {mc ms : Nat} {free : Addr → Prop}
theorem z_rs {G : zG} {w : va_W} {As : List Value} (hK : va_K G.1 vwCl (zT G.2) s) (hP : va_P G.1 vwCl w H) (hZ : zEnv A0 s s.heap) (hS : va_S A0 s.heap H locs) : PreS s H (va_Pc As (zPx G w)) As :=
  ⟨zPx.blind, fun U hU hW => ⟨rfl, by rw [hU]; exact hP, va_K.moved hW.alike hK, hZ.to hS hU hW (fun _ h => h.elim)⟩⟩
theorem z_rv {G : zG} {w wa : va_W} {As : List Value} {C : String} {b ci q0 : Nat} {T : u_T} {N : Nat} {fs : List Value} (hK : va_K G.1 vwCl (zT G.2) s) (hPa : va_P G.1 vwCl wa H) (hc : vwCl[ci]? = some (C, T, N)) (he : wa[q0]? = some (b, .inr (ci, fs))) (hP : va_P G.1 vwCl w H) (hZ : zEnv A0 s s.heap) (hS : va_S A0 s.heap H locs) : PreV s H C b (va_Pc (.ref b :: As) (zPx G w)) As :=
  ⟨zPx.blind, va_recv hK hPa hc he, fun U hU hW => ⟨rfl, by rw [hU]; exact hP, va_K.moved hW.alike hK, hZ.to hS hU hW (fun _ h => h.elim)⟩⟩
theorem z_ws {G : zG} {d : Nat} {w : va_W} {As : List Value} (hK : va_K G.1 vwCl (zT G.2) s) (hP : va_P G.1 vwCl w H) (hD : va_D A0 w) (hZ : zCe A0 d s s.heap) (hS : va_S A0 s.heap H locs) (hA : ∀ q, s.heap.size ≤ q → A0 q) : PreS s H (va_Pc As (zCu G d w H.size)) As :=
  ⟨zCu.blind, fun U hU hW => ⟨rfl, by rw [hU], by rw [hU]; exact hP, va_K.moved hW.alike hK, hD.weaken (fun _ _ _ _ => trivial), hZ.to hS hU hW (z_in (G := G) hD hS hA)⟩⟩
theorem z_wv {G : zG} {d : Nat} {w wa : va_W} {As : List Value} {C : String} {b ci q0 : Nat} {T : u_T} {N : Nat} {fs : List Value} (hK : va_K G.1 vwCl (zT G.2) s) (hPa : va_P G.1 vwCl wa H) (hc : vwCl[ci]? = some (C, T, N)) (he : wa[q0]? = some (b, .inr (ci, fs))) (hP : va_P G.1 vwCl w H) (hD : va_D A0 w) (hZ : zCe A0 d s s.heap) (hS : va_S A0 s.heap H locs) (hA : ∀ q, s.heap.size ≤ q → A0 q) : PreV s H C b (va_Pc (.ref b :: As) (zCu G d w H.size)) As :=
  ⟨zCu.blind, va_recv hK hPa hc he, fun U hU hW => ⟨rfl, by rw [hU], by rw [hU]; exact hP, va_K.moved hW.alike hK, hD.weaken (fun _ _ _ _ => trivial), hZ.to hS hU hW (z_in (G := G) hD hS hA)⟩⟩
/-- a call of a check: it throws, and so does this; or goes on, with nothing changed -/
theorem z_chk {G : zG} {w : va_W} {ok no : Prop} {E0 : String} {Lx : List String} {k : Int32} {Qc : Array Value → State → Outcome → State → Prop} (hr : vx_Run p l e R s m args below meth c H locs cells slots 1 6 (F0 m pc ls st0) rest (zQx ok a) (zXx E0 no) (fun _ => False)) (hP : va_P G.1 vwCl w H) (hS : va_S (fun _ => False) s.heap H locs)
    (hno : no → ∃ i : Nat, k = nI (i + 1) ∧ Lx[i]? = some E0) (hout : ∀ x ∈ c.exceptionTable.toList, covers x pc = false) (hlocks : meth.locks = false) (hc : cells + 1 ≤ mc) (hs : slots + 6 ≤ ms)
    (kk : ok → ∀ (H : Heap) (locs : List Loc), va_P G.1 vwCl w H → va_S (fun _ => False) s.heap H locs → W p l e R s m args below meth c H locs (cells + 1) (slots + 6) (vx_MQ below Qc (zXk Lx k) args s mc ms free) (F0 m (pc + 3) ls rest)) : W p l e R s m args below meth c H locs cells slots (vx_MQ below Qc (zXk Lx k) args s mc ms free) (F0 m pc ls st0) := by
  refine vx_callv hr hS (fun q _ h => h) (fun q h => h) (fun q _ h => h) (fun E ce q9 u t H1 locs1 ht hvm hpx hE hz1 hk1 hS1 hce hcv hcl => ?_) (fun u t H1 locs1 ht hvm hw hB hz1 hk1 hS1 => ?_)
  · have hE : E = E0 := hE
    subst hE
    obtain ⟨i, h1, h2⟩ := hno hpx
    exact vx_out hout hlocks hce hcv hcl (fun t2 ht2 _ => ⟨i, h1, h2, hS1.F ht2⟩) (fun z hz => (hS1.2.2 z hz).elim) hc hs
  · exact kk hw H1 locs1 (hP.kept (fun k q hq => hk1 q.1 (hP k q hq).lt id)) hS1
end ZCB
theorem zL_tag {N : Nat → Nat} {t : Nat} (h : t < N 2) : cL N (100 + t) := Or.inr (Or.inr (Or.inr (Or.inr (Or.inr (Or.inl ⟨by omega, by omega⟩)))))
theorem zL_alarm {N : Nat → Nat} {t : Nat} (h : t < N 3) : cL N (200 + t) := Or.inr (Or.inr (Or.inr (Or.inr (Or.inr (Or.inr (Or.inl ⟨by omega, by omega⟩))))))
theorem zL_msg {N : Nat → Nat} {t : Nat} (h : t < N 5) : cL N (300 + t) := Or.inr (Or.inr (Or.inr (Or.inr (Or.inr (Or.inr (Or.inr (Or.inl ⟨by omega, by omega⟩)))))))
theorem zL_say {N : Nat → Nat} {t : Nat} (h : t < N 5) : cL N (400 + t) := Or.inr (Or.inr (Or.inr (Or.inr (Or.inr (Or.inr (Or.inr (Or.inr ⟨by omega, by omega⟩)))))))
theorem zL_l9 {N : Nat → Nat} (h : 0 < N 2) : cL N 9 := Or.inr (Or.inr (Or.inl ⟨rfl, h⟩))
theorem zL_l10 {N : Nat → Nat} (h : 0 < N 3) : cL N 10 := Or.inr (Or.inr (Or.inr (Or.inl ⟨rfl, h⟩)))
theorem zL_l11 {N : Nat → Nat} (h : 0 < N 5) : cL N 11 := Or.inr (Or.inr (Or.inr (Or.inr (Or.inl ⟨rfl, h⟩))))
theorem cDt_p {d n a : Nat} (h : 0 < n) : cDt d n a = .ref a := if_neg (by omega)
theorem cGa_p {A : Nat → Nat} {o n k : Nat} (h : k < n) : cGa A o n k = some (A (o + k)) := if_pos h
theorem vp_in_m {a : Int32} {n k : Nat} (h : vp_in a n) (hk : n ≤ k) : vp_in a k := by
  rw [vp_in_iff] at h ⊢
  omega
/-- room that the log's growing wants -/
def zpc : Nat → Nat
  | 0 => 0
  | n + 1 => zpc n + if n < zcap n then 0 else 1
def zps : Nat → Nat
  | 0 => 0
  | n + 1 => zps n + if n < zcap n then 0 else 2 * zcap n
theorem zpc_m : ∀ {b a : Nat}, a ≤ b → zpc a ≤ zpc b
  | 0, a, h => by
    have : a = 0 := by omega
    subst this
    exact Nat.le_refl _
  | b + 1, a, h => by
    by_cases e : a = b + 1
    · subst e; exact Nat.le_refl _
    · have := zpc_m (b := b) (a := a) (by omega)
      rw [zpc]
      omega
theorem zps_m : ∀ {b a : Nat}, a ≤ b → zps a ≤ zps b
  | 0, a, h => by
    have : a = 0 := by omega
    subst this
    exact Nat.le_refl _
  | b + 1, a, h => by
    by_cases e : a = b + 1
    · subst e; exact Nat.le_refl _
    · have := zps_m (b := b) (a := a) (by omega)
      rw [zps]
      omega
theorem zpc_top : ∀ n, zpc n ≤ n
  | 0 => Nat.le_refl _
  | n + 1 => by
    have := zpc_top n
    rw [zpc]
    split <;> omega
theorem zps_top : ∀ n, zps n + 32 ≤ 2 * zcap n
  | 0 => Nat.le_refl _
  | n + 1 => by
    have h1 := zps_top n
    have h2 := zcap_le n
    show (zps n + if n < zcap n then 0 else 2 * zcap n) + 32 ≤ 2 * (if n < zcap n then zcap n else 2 * zcap n)
    split <;> omega
/-- what a call's notes want, if it isn't refused -/
def zmc (k : Int32) (a b : Nat) : Nat := if k = 0 then zpc b - zpc a else 0
def zms (k : Int32) (a b : Nat) : Nat := if k = 0 then zps b - zps a else 0
theorem zmc_0 {k : Int32} {a b : Nat} (h : k = 0) : zmc k a b = zpc b - zpc a := if_pos h
theorem zms_0 {k : Int32} {a b : Nat} (h : k = 0) : zms k a b = zps b - zps a := if_pos h
theorem zNn {i : Nat} (h : i < 2 ^ 31) : ¬ nI i < 0 := by
  have h0 : (0 : Int32).toInt = 0 := by decide
  rw [Int32.lt_iff_toInt_lt, h0, nI_toInt h]
  omega
theorem zNn_in {a : Int32} {n : Nat} (h : vp_in a n) : ¬ a < 0 := fun z => h (Or.inl z)
theorem zLt_in {a : Int32} {n : Nat} (h : vp_in a n) (hn : n < 2 ^ 31) : a < nI n := by
  rw [vp_in_iff] at h
  rw [Int32.lt_iff_toInt_lt, nI_toInt hn]
  exact h.2
theorem zlc {n k : Nat} {a : Int32} (h : vp_in a n) (hn : n ≤ k) (hk : k ≤ 60) : vp_in a (lcap n) := vp_in_m h (lcap_all n (by omega)).1
def sWas (N : Nat → Nat) (T : Nat → Nat → Int32) (t v : Int32) : Bool := sIx t (N 2) && decide (T 8 t.toNatClampNeg = v)
