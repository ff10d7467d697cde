set_option maxHeartbeats 4000000 in
theorem c_add_t (l : Launch) (G : zG) (d : Nat) (r A : Nat → Nat) (mc : Nat → Int32) (g : Nat → Nat → Int32) (N : Nat → Nat) (T : Nat → Nat → Int32) (w : va_W) (ow va : Int32) (kv v sz : Nat) (hC : sCQ G d r A mc g N T w) (hN : sSm N) (hlt : N 2 < 40) (hkv : 12 ≤ kv) (hhv : w[kv]? = some (v, .inr (5, [.int ow, .int va, .int (-1), .int 0]))) (hfr : ∀ i, cL N i → A i ≠ v) : Met l yJx4a65c_add_9ea2d wsJx4a65c_add_9ea2d ({ frames := 6, cells := 1, slots := 100, locals := 150 }) (va_Pc [.ref (r 5), .ref v] (zCu G d w sz)) (va_Qi (fun (r1 : Int32) (w1 : va_W) => r1 = 1 ∧ ∃ (A2 : Nat → Nat) (mc2 : Nat → Int32), sCQ G d r A2 mc2 g (va_up N 2 (N 2 + 1)) (va_up (va_up (va_up (va_up T 7 (upd (T 7) (N 2) ow)) 8 (upd (T 8) (N 2) va)) 9 (upd (T 9) (N 2) (-1))) 10 (upd (T 10) (N 2) 0)) w1 ∧ A2 (100 + N 2) = v) (zB G (va_A w sz)) (va_A w sz)) 1 100 (va_A w sz) := by
  obtain ⟨hcp1, hcp2, hcp3⟩ := lcap_all (N 2) (by omega)
  have hlen := sC_len hC
  have hcx : w[5]? = some (r 5, .inr (0, [.int (mc 0), cDt d (N 2) (A 9), .int (nI (N 2))])) := hC.1.1 5 (by omega)
  by_cases c0 : N 2 = 0
  · have hhl : w[5]? = some (r 5, .inr (0, [.int (mc 0), .ref d, .int (nI 0)])) := by rw [c0] at hcx; exact hcx
    refine Met_up (c_Jx4a65c_add_9ea2d_C l G d w 5 (r 5) (mc 0) kv v 5 _ sz hhl hhv (by omega) (by omega) (Or.inl rfl) (by omega) hlen) (Nat.le_of_ble_eq_true rfl) (Nat.le_of_ble_eq_true rfl) (Nat.le_of_ble_eq_true rfl) (Nat.le_of_ble_eq_true rfl) (by omega) (by omega) (fun a st o t hp hq => ?_)
    obtain ⟨-, hsz, hP, hK, hD0, hZ⟩ := hp
    obtain ⟨⟨r1, u, h1, ⟨h2, q, hz⟩, h3⟩, h4⟩ := hq
    refine ⟨⟨r1, u, h1, ⟨h2, sC_addt hC hN (hD0.self (sz := sz)) hZ.2.2.1.out hlt hkv hhv hfr (q := q) ?_⟩, h3⟩, h4⟩
    rw [if_pos c0, c0]
    exact hz
  · have hhl : w[5]? = some (r 5, .inr (0, [.int (mc 0), .ref (A 9), .int (nI (N 2))])) := by rw [cDt_p (Nat.pos_of_ne_zero c0)] at hcx; exact hcx
    obtain ⟨kd, hkd, hhd⟩ := hC.1.2.1 9 (zL_l9 (Nat.pos_of_ne_zero c0))
    have hhd : w[kd]? = some (A 9, .inl (G.2 5, lcap (N 2), .inr (.inr (.inr (.inr (cGa A 100 (N 2))))))) := hhd
    have hvd : kv ≠ kd := fun e => by
      subst e
      rw [hhd] at hhv
      exact hfr 9 (zL_l9 (Nat.pos_of_ne_zero c0)) (congrArg Prod.fst (Option.some.inj hhv))
    have hel : ∀ (i y : Nat), cGa A 100 (N 2) i = some y → ∃ (k : Nat) (fs : List Value), k ≠ 5 ∧ w[k]? = some (y, .inr (5, fs)) := fun i y h => by
      by_cases c : i < N 2
      · rw [cGa_p c] at h
        obtain ⟨k, hk, hw⟩ := hC.1.2.1 (100 + i) (zL_tag c)
        rw [cE_tag (by omega)] at hw
        rw [← Option.some.inj h]
        exact ⟨k, _, by omega, hw⟩
      · rw [cGa, if_neg c] at h
        cases h
    by_cases c1 : N 2 < lcap (N 2)
    · refine Met_up (c_Jx4a65c_add_9ea2d_A l G d w 5 (r 5) (mc 0) kd (A 9) (N 2) (cGa A 100 (N 2)) kv v 5 _ sz hhl hhd hhv (by omega) (by omega) (by omega) (by omega) hvd hvd.symm (Nat.pos_of_ne_zero c0) c1 (by omega) (Or.inl rfl) (by omega) hlen hkd) (Nat.le_of_ble_eq_true rfl) (Nat.le_of_ble_eq_true rfl) (Nat.le_of_ble_eq_true rfl) (Nat.le_of_ble_eq_true rfl) (by omega) (by omega) (fun a st o t hp hq => ?_)
      obtain ⟨-, hsz, hP, hK, hD0, hZ⟩ := hp
      obtain ⟨⟨r1, u, h1, ⟨h2, q, hz⟩, h3⟩, h4⟩ := hq
      refine ⟨⟨r1, u, h1, ⟨h2, sC_addt hC hN (hD0.self (sz := sz)) hZ.2.2.1.out hlt hkv hhv hfr (q := q) ?_⟩, h3⟩, h4⟩
      rw [if_neg c0]
      exact hz
    · have hcap : lcap (N 2) = N 2 := by omega
      have hhd2 := hhd
      rw [hcap] at hhd2
      refine Met_up (c_Jx4a65c_add_9ea2d_B l G d w 5 (r 5) (mc 0) kd (A 9) (N 2) (cGa A 100 (N 2)) kv v 5 _ sz hhl hhd2 hhv (by omega) (by omega) (by omega) (by omega) (by omega) (by omega) hel (Or.inl rfl) (by omega) hlen hcap (fun k9 h9 => by rw [cGa, if_neg (by omega)])) (Nat.le_of_ble_eq_true rfl) (Nat.le_of_ble_eq_true rfl) (show N 2 + N 2 / 2 ≤ 100 by omega) (Nat.le_of_ble_eq_true rfl) (by omega) (by omega) (fun a st o t hp hq => ?_)
      obtain ⟨-, hsz, hP, hK, hD0, hZ⟩ := hp
      obtain ⟨⟨r1, u, h1, ⟨h2, q, hz⟩, h3⟩, h4⟩ := hq
      refine ⟨⟨r1, u, h1, ⟨h2, sC_addt hC hN (hD0.self (sz := sz)) hZ.2.2.1.out hlt hkv hhv hfr (q := q) ?_⟩, h3⟩, h4⟩
      rw [if_neg c0]
      exact hz
set_option maxHeartbeats 4000000 in
theorem c_add_a (l : Launch) (G : zG) (d : Nat) (r A : Nat → Nat) (mc : Nat → Int32) (g : Nat → Nat → Int32) (N : Nat → Nat) (T : Nat → Nat → Int32) (w : va_W) (ve li va : Int32) (bh bo : Bool) (kv v sz : Nat) (hC : sCQ G d r A mc g N T w) (hN : sSm N) (hlt : N 3 < 10) (hkv : 12 ≤ kv) (hhv : w[kv]? = some (v, .inr (1, [.int ve, .int li, .int (zb bh), .int va, .int (zb bo), .int (T 16 (N 3))]))) (hfr : ∀ i, cL N i → A i ≠ v) : Met l yJx4a65c_add_9ea2d wsJx4a65c_add_9ea2d ({ frames := 6, cells := 1, slots := 100, locals := 150 }) (va_Pc [.ref (r 6), .ref v] (zCu G d w sz)) (va_Qi (fun (r1 : Int32) (w1 : va_W) => r1 = 1 ∧ ∃ (A2 : Nat → Nat) (mc2 : Nat → Int32), sCQ G d r A2 mc2 g (va_up N 3 (N 3 + 1)) (va_up (va_up (va_up (va_up (va_up T 11 (upd (T 11) (N 3) ve)) 12 (upd (T 12) (N 3) li)) 13 (upd (T 13) (N 3) (zb bh))) 14 (upd (T 14) (N 3) va)) 15 (upd (T 15) (N 3) (zb bo))) w1 ∧ A2 (200 + N 3) = v) (zB G (va_A w sz)) (va_A w sz)) 1 100 (va_A w sz) := by
  obtain ⟨hcp1, hcp2, hcp3⟩ := lcap_all (N 3) (by omega)
  have hlen := sC_len hC
  have hcx : w[6]? = some (r 6, .inr (0, [.int (mc 1), cDt d (N 3) (A 10), .int (nI (N 3))])) := hC.1.1 6 (by omega)
  by_cases c0 : N 3 = 0
  · have hhl : w[6]? = some (r 6, .inr (0, [.int (mc 1), .ref d, .int (nI 0)])) := by rw [c0] at hcx; exact hcx
    refine Met_up (c_Jx4a65c_add_9ea2d_C l G d w 6 (r 6) (mc 1) kv v 1 _ sz hhl hhv (by omega) (by omega) (Or.inr (Or.inl rfl)) (by omega) hlen) (Nat.le_of_ble_eq_true rfl) (Nat.le_of_ble_eq_true rfl) (Nat.le_of_ble_eq_true rfl) (Nat.le_of_ble_eq_true rfl) (by omega) (by omega) (fun a st o t hp hq => ?_)
    obtain ⟨-, hsz, hP, hK, hD0, hZ⟩ := hp
    obtain ⟨⟨r1, u, h1, ⟨h2, q, hz⟩, h3⟩, h4⟩ := hq
    refine ⟨⟨r1, u, h1, ⟨h2, sC_adda hC hN (hD0.self (sz := sz)) hZ.2.2.1.out hlt hkv hhv hfr (q := q) ?_⟩, h3⟩, h4⟩
    rw [if_pos c0, c0]
    exact hz
  · have hhl : w[6]? = some (r 6, .inr (0, [.int (mc 1), .ref (A 10), .int (nI (N 3))])) := by rw [cDt_p (Nat.pos_of_ne_zero c0)] at hcx; exact hcx
    obtain ⟨kd, hkd, hhd⟩ := hC.1.2.1 10 (zL_l10 (Nat.pos_of_ne_zero c0))
    have hhd : w[kd]? = some (A 10, .inl (G.2 5, lcap (N 3), .inr (.inr (.inr (.inr (cGa A 200 (N 3))))))) := hhd
    have hvd : kv ≠ kd := fun e => by
      subst e
      rw [hhd] at hhv
      exact hfr 10 (zL_l10 (Nat.pos_of_ne_zero c0)) (congrArg Prod.fst (Option.some.inj hhv))
    have hel : ∀ (i y : Nat), cGa A 200 (N 3) i = some y → ∃ (k : Nat) (fs : List Value), k ≠ 6 ∧ w[k]? = some (y, .inr (1, fs)) := fun i y h => by
      by_cases c : i < N 3
      · rw [cGa_p c] at h
        obtain ⟨k, hk, hw⟩ := hC.1.2.1 (200 + i) (zL_alarm c)
        rw [cE_alarm (by omega)] at hw
        rw [← Option.some.inj h]
        exact ⟨k, _, by omega, hw⟩
      · rw [cGa, if_neg c] at h
        cases h
    by_cases c1 : N 3 < lcap (N 3)
    · refine Met_up (c_Jx4a65c_add_9ea2d_A l G d w 6 (r 6) (mc 1) kd (A 10) (N 3) (cGa A 200 (N 3)) kv v 1 _ sz hhl hhd hhv (by omega) (by omega) (by omega) (by omega) hvd hvd.symm (Nat.pos_of_ne_zero c0) c1 (by omega) (Or.inr (Or.inl rfl)) (by omega) hlen hkd) (Nat.le_of_ble_eq_true rfl) (Nat.le_of_ble_eq_true rfl) (Nat.le_of_ble_eq_true rfl) (Nat.le_of_ble_eq_true rfl) (by omega) (by omega) (fun a st o t hp hq => ?_)
      obtain ⟨-, hsz, hP, hK, hD0, hZ⟩ := hp
      obtain ⟨⟨r1, u, h1, ⟨h2, q, hz⟩, h3⟩, h4⟩ := hq
      refine ⟨⟨r1, u, h1, ⟨h2, sC_adda hC hN (hD0.self (sz := sz)) hZ.2.2.1.out hlt hkv hhv hfr (q := q) ?_⟩, h3⟩, h4⟩
      rw [if_neg c0]
      exact hz
    · have hcap : lcap (N 3) = N 3 := by omega
      have hhd2 := hhd
      rw [hcap] at hhd2
      refine Met_up (c_Jx4a65c_add_9ea2d_B l G d w 6 (r 6) (mc 1) kd (A 10) (N 3) (cGa A 200 (N 3)) kv v 1 _ sz hhl hhd2 hhv (by omega) (by omega) (by omega) (by omega) (by omega) (by omega) hel (Or.inr (Or.inl rfl)) (by omega) hlen hcap (fun k9 h9 => by rw [cGa, if_neg (by omega)])) (Nat.le_of_ble_eq_true rfl) (Nat.le_of_ble_eq_true rfl) (show N 3 + N 3 / 2 ≤ 100 by omega) (Nat.le_of_ble_eq_true rfl) (by omega) (by omega) (fun a st o t hp hq => ?_)
      obtain ⟨-, hsz, hP, hK, hD0, hZ⟩ := hp
      obtain ⟨⟨r1, u, h1, ⟨h2, q, hz⟩, h3⟩, h4⟩ := hq
      refine ⟨⟨r1, u, h1, ⟨h2, sC_adda hC hN (hD0.self (sz := sz)) hZ.2.2.1.out hlt hkv hhv hfr (q := q) ?_⟩, h3⟩, h4⟩
      rw [if_neg c0]
      exact hz
set_option maxHeartbeats 4000000 in
theorem c_add_m (l : Launch) (G : zG) (d : Nat) (r A : Nat → Nat) (mc : Nat → Int32) (g : Nat → Nat → Int32) (N : Nat → Nat) (T : Nat → Nat → Int32) (w : va_W) (x4 k4 ln : Nat) (tx : Nat → Int32) (kv v sz : Nat) (hC : sCQ G d r A mc g N T w) (hN : sSm N) (hlt : N 5 < 60) (hkv : 12 ≤ kv) (hhv : w[kv]? = some (v, .inr (4, [.ref x4]))) (hfr : ∀ i, cL N i → A i ≠ v) (hk4 : 12 ≤ k4) (hw4 : w[k4]? = some (x4, .inl (G.2 0, sLen tx ln, .inl (sSgn tx ln)))) (hf4 : ∀ i, cL N i → A i ≠ x4) (hne : x4 ≠ v) : Met l yJx4a65c_add_9ea2d wsJx4a65c_add_9ea2d ({ frames := 6, cells := 1, slots := 100, locals := 150 }) (va_Pc [.ref (r 7), .ref v] (zCu G d w sz)) (va_Qi (fun (r1 : Int32) (w1 : va_W) => r1 = 1 ∧ ∃ (A2 : Nat → Nat) (mc2 : Nat → Int32), sCQ G d r A2 mc2 g (va_up (va_up N (20 + N 5) ln) 5 (N 5 + 1)) (va_up T (20 + N 5) tx) w1 ∧ A2 (300 + N 5) = v) (zB G (va_A w sz)) (va_A w sz)) 1 100 (va_A w sz) := by
  obtain ⟨hcp1, hcp2, hcp3⟩ := lcap_all (N 5) (by omega)
  have hlen := sC_len hC
  have hcx : w[7]? = some (r 7, .inr (0, [.int (mc 2), cDt d (N 5) (A 11), .int (nI (N 5))])) := hC.1.1 7 (by omega)
  by_cases c0 : N 5 = 0
  · have hhl : w[7]? = some (r 7, .inr (0, [.int (mc 2), .ref d, .int (nI 0)])) := by rw [c0] at hcx; exact hcx
    refine Met_up (c_Jx4a65c_add_9ea2d_C l G d w 7 (r 7) (mc 2) kv v 4 _ sz hhl hhv (by omega) (by omega) (Or.inr (Or.inr rfl)) (by omega) hlen) (Nat.le_of_ble_eq_true rfl) (Nat.le_of_ble_eq_true rfl) (Nat.le_of_ble_eq_true rfl) (Nat.le_of_ble_eq_true rfl) (by omega) (by omega) (fun a st o t hp hq => ?_)
    obtain ⟨-, hsz, hP, hK, hD0, hZ⟩ := hp
    obtain ⟨⟨r1, u, h1, ⟨h2, q, hz⟩, h3⟩, h4⟩ := hq
    refine ⟨⟨r1, u, h1, ⟨h2, sC_addm hC hN (hD0.self (sz := sz)) hZ.2.2.1.out hlt hkv hhv hfr hk4 hw4 hf4 hne (q := q) ?_⟩, h3⟩, h4⟩
    rw [if_pos c0, c0]
    exact hz
  · have hhl : w[7]? = some (r 7, .inr (0, [.int (mc 2), .ref (A 11), .int (nI (N 5))])) := by rw [cDt_p (Nat.pos_of_ne_zero c0)] at hcx; exact hcx
    obtain ⟨kd, hkd, hhd⟩ := hC.1.2.1 11 (zL_l11 (Nat.pos_of_ne_zero c0))
    have hhd : w[kd]? = some (A 11, .inl (G.2 5, lcap (N 5), .inr (.inr (.inr (.inr (cGa A 300 (N 5))))))) := hhd
    have hvd : kv ≠ kd := fun e => by
      subst e
      rw [hhd] at hhv
      exact hfr 11 (zL_l11 (Nat.pos_of_ne_zero c0)) (congrArg Prod.fst (Option.some.inj hhv))
    have hel : ∀ (i y : Nat), cGa A 300 (N 5) i = some y → ∃ (k : Nat) (fs : List Value), k ≠ 7 ∧ w[k]? = some (y, .inr (4, fs)) := fun i y h => by
      by_cases c : i < N 5
      · rw [cGa_p c] at h
        obtain ⟨k, hk, hw⟩ := hC.1.2.1 (300 + i) (zL_msg c)
        rw [cE_msg (by omega)] at hw
        rw [← Option.some.inj h]
        exact ⟨k, _, by omega, hw⟩
      · rw [cGa, if_neg c] at h
        cases h
    by_cases c1 : N 5 < lcap (N 5)
    · refine Met_up (c_Jx4a65c_add_9ea2d_A l G d w 7 (r 7) (mc 2) kd (A 11) (N 5) (cGa A 300 (N 5)) kv v 4 _ sz hhl hhd hhv (by omega) (by omega) (by omega) (by omega) hvd hvd.symm (Nat.pos_of_ne_zero c0) c1 (by omega) (Or.inr (Or.inr rfl)) (by omega) hlen hkd) (Nat.le_of_ble_eq_true rfl) (Nat.le_of_ble_eq_true rfl) (Nat.le_of_ble_eq_true rfl) (Nat.le_of_ble_eq_true rfl) (by omega) (by omega) (fun a st o t hp hq => ?_)
      obtain ⟨-, hsz, hP, hK, hD0, hZ⟩ := hp
      obtain ⟨⟨r1, u, h1, ⟨h2, q, hz⟩, h3⟩, h4⟩ := hq
      refine ⟨⟨r1, u, h1, ⟨h2, sC_addm hC hN (hD0.self (sz := sz)) hZ.2.2.1.out hlt hkv hhv hfr hk4 hw4 hf4 hne (q := q) ?_⟩, h3⟩, h4⟩
      rw [if_neg c0]
      exact hz
    · have hcap : lcap (N 5) = N 5 := by omega
      have hhd2 := hhd
      rw [hcap] at hhd2
      refine Met_up (c_Jx4a65c_add_9ea2d_B l G d w 7 (r 7) (mc 2) kd (A 11) (N 5) (cGa A 300 (N 5)) kv v 4 _ sz hhl hhd2 hhv (by omega) (by omega) (by omega) (by omega) (by omega) (by omega) hel (Or.inr (Or.inr rfl)) (by omega) hlen hcap (fun k9 h9 => by rw [cGa, if_neg (by omega)])) (Nat.le_of_ble_eq_true rfl) (Nat.le_of_ble_eq_true rfl) (show N 5 + N 5 / 2 ≤ 100 by omega) (Nat.le_of_ble_eq_true rfl) (by omega) (by omega) (fun a st o t hp hq => ?_)
      obtain ⟨-, hsz, hP, hK, hD0, hZ⟩ := hp
      obtain ⟨⟨r1, u, h1, ⟨h2, q, hz⟩, h3⟩, h4⟩ := hq
      refine ⟨⟨r1, u, h1, ⟨h2, sC_addm hC hN (hD0.self (sz := sz)) hZ.2.2.1.out hlt hkv hhv hfr hk4 hw4 hf4 hne (q := q) ?_⟩, h3⟩, h4⟩
      rw [if_neg c0]
      exact hz
