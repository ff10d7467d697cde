/-! lists that grow -/
theorem zminm {n m : Nat} (h : n ≤ m) (hm : m < 2 ^ 31) : (if nI m < nI n then nI m else nI n) = nI n := by
  rw [if_neg]
  intro z
  have := (nI_ltI hm (by omega)).mp z
  omega
theorem zmax1 : ∀ n, n < 100 → 2 ≤ n → (if nI 1 < nI (n / 2) then nI (n / 2) else nI 1) = nI (n / 2) := by decide +kernel
theorem zShr1 : ∀ n, n < 100 → nI n >>> ((1 : Int32) &&& 31) = nI (n / 2) := by decide +kernel
theorem zGt0 {n : Nat} (h : 0 < n) (hn : n < 2 ^ 31) : (0 : Int32) < nI n := nI_lt (a := 0) h hn
def zCm (G : zG) (d mi : Nat) (w : va_W) (sz : Nat) (U : State) : Prop := zCu G d w sz U ∧ va_Mi "[Ljava/lang/Object;" mi U
theorem zCm.blind {G : zG} {d mi : Nat} {w : va_W} {sz : Nat} {av : List Value} : FrameBlind (va_Pc av (zCm G d mi w sz)) := fun a U g mk q => ⟨q.1, (zCu.blind (av := av) a U g mk ⟨q.1, q.2.1⟩).2, va_Mi.moved (u := U) (U := U.calling g mk a) (Vm.Alike.refl U.vm) q.2.2⟩
section ZLG
variable {p : Program} {l : Launch} {e : Env} {R : Room} {s : State} {m : MethodId} {args : Array Value} {below : List Frame} {meth : Method} {c : Code} {H : Heap} {locs : List Loc} {cells slots : Nat} {Q : State → Prop}
variable {cc : ByteArray} {pc : Nat} {ls : Array Slot} {rest st0 : List Value} {a : Array Value} {A0 : Nat → Prop} {H0 : Heap} {mc ms : Nat} {free : Addr → Prop}
theorem z_wsm {G : zG} {d mi : Nat} {w : va_W} {As : List Value} (hM : va_Mi "[Ljava/lang/Object;" mi s) (hK : va_K G.1 vwCl (zT G.2) s) (hP : va_P G.1 vwCl w H) (hD : va_D A0 w) (hZ : zCe A0 d s s.heap) (hS : va_S A0 s.heap H locs) (hA : ∀ q, s.heap.size ≤ q → A0 q) : PreS s H (va_Pc As (zCm G d mi w H.size)) As :=
  ⟨zCm.blind, fun U hU hW => ⟨rfl, ⟨by rw [hU], by rw [hU]; exact hP, va_K.moved hW.alike hK, hD.weaken (fun _ _ _ _ => trivial), hZ.to hS hU hW (z_in (G := G) hD hS hA)⟩, hM.moved hW.alike⟩⟩
theorem zrecvE {D : va_G} {tys : List (ClassId × FieldType)} {ws : va_W} {ci b q0 : Nat} {fs : List Value} (hci : ci = 5 ∨ ci = 1 ∨ ci = 4) (hK : va_K D vwCl tys s) (hP : va_P D vwCl ws H) (he : ws[q0]? = some (b, .inr (ci, fs))) : ∃ cell : Cell, H[b]? = some cell ∧ cell.vm.isStatics = false ∧ s.vm.findClass (zcn ci) = some cell.cls := by
  obtain ⟨Tc, n, hc⟩ := zcn_cl hci
  exact va_recv hK hP hc he
theorem z_newq {D : va_G} {cl : List vw_C} {A : Nat → Prop} {tys : List (ClassId × FieldType)} {ws : va_W} {t0 : Nat} {cA : ClassId} (hexec : p.tables.exec = Jvm.exec) (hb : c.code = cc) {own C : String} {index : Nat} (hown : s.vm.findClass own = some m.cls) (hclink : (Cond.classLink own index C).before args s = true) (hover : va_AO C s) (ht : tys[t0]? = some (cA, .object C)) (hK : va_K D cl tys s) (hP : va_P D cl ws H) (hD : va_D A ws) (hS : va_S A H0 H locs) (hA : ∀ q, H0.size ≤ q → A q)
    {n : Int32} {N' : Nat} (hn : ¬ n < 0) (hN : n.toNatClampNeg = N') (hbytes : N' * 4 ≤ 536870912) (hcells : cells + 1 ≤ R.cells) (hslots : slots + N' ≤ R.slots) (hdg : decode cc pc = .ok (.anewarray index, 3))
    (kk : ∀ (q : Nat) (H1 : Heap), va_P D cl (ws ++ [(q, .inl (cA, N', .inr (.inr (.inr (.inr (fun _ => none))))))]) H1 → va_D A (ws ++ [(q, .inl (cA, N', .inr (.inr (.inr (.inr (fun _ => none))))))]) → va_S A H0 H1 locs →
      W p l e R s m args below meth c H1 locs (cells + 1) (slots + N') Q (F0 m (pc + 3) ls (.ref q :: rest))) : W p l e R s m args below meth c H locs cells slots Q (F0 m pc ls (.int n :: rest)) := by
  refine va_newq hexec hb hown hclink hover hK hP hD hS hA hn hN hbytes hcells hslots hdg (fun q cB H1 hK1 hP1 hD1 hS1 => ?_)
  have h1 := va_nmO (hK.2 t0 _ ht).2 rfl
  have h2 := va_nmO (hK1.2 tys.length (cB, .object C) (by rw [List.getElem?_append_right (Nat.le_refl _), Nat.sub_self]; rfl)).2 rfl
  have h3 : cB = cA := Option.some.inj (h2.symm.trans h1)
  subst h3
  exact kk q H1 hP1 hD1 hS1
end ZLG
/-- what adding v leaves behind: the list (at kl, its array was dd), all else as it was, its array's new address q -/
def zAd (G : zG) (w w1 : va_W) (kl bl dd n v q : Nat) (ga : Nat → Option Nat) : Prop :=
  (∀ (k : Nat) (x : Nat × va_E), w[k]? = some x → k ≠ kl → x.1 ≠ dd → w1[k]? = some x) ∧ (∃ mc : Int32, w1[kl]? = some (bl, .inr (0, [.int mc, .ref q, .int (nI (n + 1))]))) ∧
  (∃ kq, 12 ≤ kq ∧ w1[kq]? = some (q, .inl (G.2 5, lcap (n + 1), .inr (.inr (.inr (.inr (va_up ga n (some v)))))))) ∧ ((0 < n ∧ q = dd) ∨ ∀ (k : Nat) (y : va_E), w[k]? = some (q, y) → False)
theorem lcap_s0 {n : Nat} (h : n < lcap n) : lcap (n + 1) = lcap n := if_pos h
theorem lcap_s1 {n : Nat} (h : ¬ n < lcap n) (h0 : 0 < n) : lcap (n + 1) = lcap n + lcap n / 2 := by
  rw [lcap, if_neg h, if_neg (by omega)]
theorem zAd_a {G : zG} {w : va_W} {kl bl dd n v kd : Nat} {ga : Nat → Option Nat} {a c : va_E} {mc : Int32} {y : va_E} (hkl : kl < 12) (hkd : 12 ≤ kd) (hl : w[kl]? = some (bl, y)) (hd : w[kd]? = some (dd, .inl (G.2 5, lcap n, .inr (.inr (.inr (.inr ga)))))) (h0 : 0 < n) (hn : n < lcap n) :
    zAd G w (((w.set kl (bl, a)).set kd (dd, .inl (G.2 5, lcap n, .inr (.inr (.inr (.inr (va_up ga n (some v)))))))).set kl (bl, .inr (0, [.int mc, .ref dd, .int (nI (n + 1))]))) kl bl dd n v dd ga := by
  refine ⟨fun k x hk h1 h2 => ?_, ⟨mc, z_self (y := (bl, a)) (z_other (by omega) (z_self hl))⟩, ⟨kd, hkd, z_other (by omega) ?_⟩, Or.inl ⟨h0, rfl⟩⟩
  · refine z_other (Ne.symm h1) (z_other (fun e => ?_) (z_other (Ne.symm h1) hk))
    subst e
    rw [hd] at hk
    exact h2 (by rw [← Option.some.inj hk])
  · rw [lcap_s0 hn]
    exact z_self (z_other (by omega) hd)
theorem zAd_b {G : zG} {w : va_W} {kl bl dd n v q cap : Nat} {ga f : Nat → Option Nat} {a b c : va_E} {mc : Int32} {y : va_E} (hlen : 12 ≤ w.length) (hkl : kl < 12) (hl : w[kl]? = some (bl, y)) (hcap : cap = lcap (n + 1)) (hf : va_up f n (some v) = va_up ga n (some v)) (hq : ∀ (k : Nat) (y : va_E), w[k]? = some (q, y) → False) :
    zAd G w (((((w.set kl (bl, a)) ++ ([(q, c)] : va_W)).set kl (bl, b)).set w.length (q, .inl (G.2 5, cap, .inr (.inr (.inr (.inr (va_up f n (some v)))))))).set kl (bl, .inr (0, [.int mc, .ref q, .int (nI (n + 1))]))) kl bl dd n v q ga := by
  have h1 : ((w.set kl (bl, a)) ++ ([(q, c)] : va_W))[w.length]? = some (q, c) := by
    have := z_last (w := w.set kl (bl, a)) (x := (q, c))
    rw [List.length_set] at this
    exact this
  refine ⟨fun k x hk h2 h3 => ?_, ⟨mc, ?_⟩, ⟨w.length, hlen, z_other (by omega) ?_⟩, Or.inr hq⟩
  · have := (List.getElem?_eq_some_iff.mp hk).1
    exact z_other (Ne.symm h2) (z_other (by omega) (z_other (Ne.symm h2) (z_app (z_other (Ne.symm h2) hk))))
  · exact z_self (z_other (by omega) (z_self (z_app (z_self hl))))
  · rw [← hcap, ← hf]
    exact z_self (z_other (by omega) h1)
theorem zfr {A : Nat → Prop} {w : va_W} {x : Nat × va_E} {kl bl : Nat} {e y0 : va_E} (hD : va_D A ((w ++ ([x] : va_W)).set kl (bl, e))) (hl : w[kl]? = some (bl, y0)) : ∀ (k : Nat) (y : va_E), w[k]? = some (x.1, y) → False := by
  intro k y hk
  have h1 := (List.getElem?_eq_some_iff.mp hk).1
  have h2 := (List.getElem?_eq_some_iff.mp hl).1
  have h3 : ((w ++ ([x] : va_W)).set kl (bl, e))[w.length]? = some x := z_other (by omega) z_last
  by_cases c : kl = k
  · subst c
    rw [hl] at hk
    have h4 : bl = x.1 := congrArg Prod.fst (Option.some.inj hk)
    have := hD.1 kl w.length (bl, e) x (z_self (z_app hl)) h3 h4
    omega
  · have := hD.1 k w.length (x.1, y) x (z_other c (z_app hk)) h3 rfl
    omega
theorem zfr_s {w : va_W} {kl bl q : Nat} {a y0 : va_E} (hl : w[kl]? = some (bl, y0)) (h : ∀ (k : Nat) (y : va_E), (w.set kl (bl, a))[k]? = some (q, y) → False) : ∀ (k : Nat) (y : va_E), w[k]? = some (q, y) → False := by
  intro k y hk
  by_cases c : kl = k
  · subst c
    rw [hl] at hk
    have h4 : bl = q := congrArg Prod.fst (Option.some.inj hk)
    subst h4
    exact h kl a (z_self hl)
  · exact h k y (z_other c hk)
theorem zcpyn {ga : Nat → Option Nat} {n : Nat} (hg : ∀ k, n ≤ k → ga k = none) (v : Nat) : va_up (va_cpy ga (fun _ => none) 0 0 n) n (some v) = va_up ga n (some v) := by
  have h1 : va_cpy ga (fun _ => none) 0 0 n = ga := by
    funext k
    rw [va_cpy]
    split
    · congr 1
      omega
    · rw [hg k (by omega)]
  rw [h1]
