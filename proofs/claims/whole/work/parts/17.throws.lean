theorem zWords_tab {w : Cond} (h : w ∈ zWords) : w.onTables = true := by
  have := List.all_eq_true.mp zWords_kind w h
  cases w <;> first | rfl | (simp [zKind] at this; done)
theorem zThrow_all {args : Array Value} {s : State} {ic : Nat} {C : String} (h1 : ∀ w ∈ (vx_atS RX6 ic C ["java/lang/RuntimeException", "java/lang/Exception"]).filter goodWord, w.before args s = true) (hm : ∀ w ∈ zBad ic C, w ∈ zWords) (hN : zNs s) : ∀ w ∈ vx_atS RX6 ic C ["java/lang/RuntimeException", "java/lang/Exception"], w.before args s = true :=
  vx_hat h1 (B := zWords) (fun w h => hm w h) (fun w h => va_Nw.use (zWords_tab h) (hN.1 w h))
theorem zBad_204 : ∀ w ∈ zBad 204 "java/lang/IndexOutOfBoundsException", w ∈ zWords := fun w h => List.mem_append_right _ (List.mem_append_left _ (List.mem_append_left _ h))
theorem zBad_99 : ∀ w ∈ zBad 99 "java/lang/IllegalStateException", w ∈ zWords := fun w h => List.mem_append_right _ (List.mem_append_left _ (List.mem_append_right _ h))
theorem zBad_88 : ∀ w ∈ zBad 88 "java/lang/IllegalArgumentException", w ∈ zWords := fun w h => List.mem_append_right _ (List.mem_append_right _ h)
theorem zGood_204 : ∀ w ∈ Cond.classLink RX6 200 "java/lang/IndexOutOfBoundsException" :: Cond.initialized "java/lang/IndexOutOfBoundsException" :: vx_atS RX6 204 "java/lang/IndexOutOfBoundsException" ["java/lang/RuntimeException", "java/lang/Exception"], vx_ot w = true := List.all_eq_true.mp (by decide +kernel)
theorem zText {s : State} (hN : zNs s) (i : Nat) {q : String × Nat × String} (h : zTexts[i]? = some q) : ∃ sa : Nat, vk_R q.1 q.2.1 q.2.2 sa s := hN.2 q (List.mem_of_getElem? h)
section ZWD
variable {p : Program} {l : Launch} {e : Env} {R : Room} {s : State} {m : MethodId} {args : Array Value} {below : List Frame} {meth : Method} {c : Code} {H : Heap} {locs : List Loc} {cells slots : Nat} {Q : State → Prop}
theorem z_widen {g : JFrame} {k n : Nat} (h1 : cells ≤ k) (h2 : slots ≤ n) (kk : W p l e R s m args below meth c H locs k n Q g) : W p l e R s m args below meth c H locs cells slots Q g := fun T hT X => kk T hT (stand_widen X h1 h2)
end ZWD
set_option maxHeartbeats 4000000 in
set_option maxRecDepth 100000 in
theorem c_X6_checkPerson (l : Launch) (hst : l.stackTraces = false) (G : zG) (w : va_W) (a1 : Int32) : vx_Met l yX6_checkPerson wsX6_checkPerson ({ frames := 6, cells := 1, slots := 6, locals := 90 }) (va_Pc [.int a1] (zPx G w)) (zQx (sIx a1 9 = true)) (zXx "java/lang/IndexOutOfBoundsException" (sIx a1 9 = false)) 1 6 (fun _ => False) := by
  refine vx_ofW (cc := cX6_checkPerson) (maxL := 1) (ret := none) (by decide) rfl ?_
  intro p e s m args below meth c s₁ B hml hxt hv
  obtain ⟨rfl, hP, hK, hZ⟩ := hv
  have hx := B.exec
  have hb := B.bytes
  have hr := B.returns
  have hts := atoms_spec (ws := wsX6_checkPerson) B.pre
  have hown : s.vm.findClass RX6 = some m.cls := findClass_of_methodNamed B.named
  have hlocks := B.notSynchronized
  have hl := lv_entry ([.int a1]) (n := 1) (Nat.le_of_ble_eq_true rfl)
  rw [lg_entry_eq]
  generalize (lg_sl ([.int a1]) ++ List.replicate (1 - (lg_sl ([.int a1])).length) Slot.unset).toArray = ls at hl ⊢
  have hl : lv_has ls 1 [(0, .int a1)] := hl
  have hthr : sIx a1 9 = false → W p l e (headSpec wsX6_checkPerson ({ frames := 6, cells := 1, slots := 6, locals := 90 })).room s m ([.int a1] : List Value).toArray below meth c s.heap [] 0 0 (vx_MQ below (zQx (sIx a1 9 = true)) (zXx "java/lang/IndexOutOfBoundsException" (sIx a1 9 = false)) ([.int a1] : List Value).toArray s 1 6 (fun _ => False)) (F0 m 10 ls []) := by
    intro h0
    obtain ⟨sa, hsa⟩ := zText hZ.2.2 (i := 15) (q := ("BoilerLog", 271, "no such person")) rfl
    exact vx_throwSW (own := RX6) (cls := "java/lang/IndexOutOfBoundsException") (names := ["java/lang/RuntimeException", "java/lang/Exception"]) (A := fun _ => False) hx hb hst hown (by decide) (by decide) (hts _ (List.mem_of_getElem? (i := 1) rfl)) (hts _ (List.mem_of_getElem? (i := 2) rfl)) hsa (zThrow_all (fun w h => hts w (List.mem_cons_of_mem _ (List.mem_append_right _ h))) zBad_204 hZ.2.2) zGood_204 hZ.1 hZ.2.1 va_S.rf (by rw [hml]; exact hl.1) dX6_checkPerson_10 dX6_checkPerson_13 dX6_checkPerson_14 dX6_checkPerson_17 dX6_checkPerson_20 (fun x h => (hxt x h).elim) (Nat.le_of_ble_eq_true rfl) (Nat.le_of_ble_eq_true rfl) (Nat.le_of_ble_eq_true rfl) (Nat.le_of_ble_eq_true rfl) hlocks (fun t _ hz hq => ⟨(), h0, rfl, ⟨hz, fun q hq1 _ => hq q hq1⟩⟩) (fun _ h => nomatch h) (Nat.le_refl _) (Nat.le_refl _)
  refine lv_iload_n hx hb dX6_checkPerson_0 rfl (lv_at hl 0 rfl) ?_
  refine lv_if_lt (tgt := 10) hx hb dX6_checkPerson_1 (by decide) (fun zc_1 => ?_) (fun zc_1 => ?_)
  · exact hthr (by rw [← sIn_8]; simp [sIn, Int32.not_le.mpr zc_1])
  · refine lv_iload_n hx hb dX6_checkPerson_4 rfl (lv_at hl 0 rfl) ?_
    refine lv_bipush (v := 9) hx hb dX6_checkPerson_5 (by decide) ?_
    refine lv_icmp_lt (tgt := 21) hx hb dX6_checkPerson_7 (by decide) (fun zc_2 => ?_) (fun zc_2 => ?_)
    · exact vx_ret (z_widen (k := 1) (n := 6) (Nat.zero_le _) (Nat.zero_le _) (W.vret hx hb hr (fun t ht hW => ⟨⟨(), rfl, zIx_lt (by decide) zc_1 zc_2, trivial⟩, va_S.rf.F ht⟩) (fun _ h => nomatch h) dX6_checkPerson_21 hlocks))
    · exact hthr (zIx_ge (by decide) zc_2)
