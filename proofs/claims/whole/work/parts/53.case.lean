set_option maxHeartbeats 4000000 in
set_option maxRecDepth 100000 in
theorem law_c16 {p : Program} {l : Launch} {e : Env} {s : State} {m : MethodId} {below : List Frame} {meth : Method} {c : Code} {b L : Nat} {xs : Nat → Int32} (hL : L ≤ 3072) (hst : l.stackTraces = false) (C0 : zLA p s m c b L xs) {G : zG} {d : Nat} (hE : zLe G d s) {r q : Nat → Nat} {o K : Nat} {N : Nat → Nat} {T : Nat → Nat → Int32} {wz : va_W} {H : Heap} {locs : List Loc} (hw : zLw G d r q o K N T wz) (hi : 6 * K + 6 ≤ L) (hP : va_P G.1 vwCl wz H) (hD : va_D (fun a => s.heap.size ≤ a) wz) (hS : va_S (fun a => s.heap.size ≤ a) s.heap H locs) {ls : Array Slot} (hl : lv_has ls 7 [(4, .int (nI (6 * K))), (0, .ref b), (1, .ref (r 0)), (2, .ref (q 0)), (3, .ref o)]) (kk : zKK p l e s m below meth c b G d r q o K) : W p l e room_1 s m #[Value.ref b] below meth c H locs (zLc K N) (zLs K N) (lw_Z below #[Value.ref b] s) (F0 m 1168 ls []) := by
  obtain ⟨hx, hb, hml, hown, hts, hXs, hbl⟩ := C0
  obtain ⟨hK, hZ, hLx⟩ := hE
  have hA : ∀ a : Nat, s.heap.size ≤ a → (fun a : Nat => s.heap.size ≤ a) a := fun _ h => h
  have hbA : ¬ (fun a : Nat => s.heap.size ≤ a) b := Nat.not_le.mpr hbl
  obtain ⟨A, mc, g, w, wm, th, f, rfl, hC, hMO, hGo⟩ := hw
  obtain ⟨E, hg, ag, mn, sd, tk, sg, sn, rfl, hM⟩ := hMO
  have hK5 : K ≤ 511 := by omega
  have hrm := zRk0 hGo hK5
  have hNs : sSm N := sSm.of hGo.1
  refine lv_aload_n hx hb dL_law_1168 rfl (lv_at hl 2 rfl) ?_
  rw [List.append_assoc] at hP hD
  refine z_li (G := G) (w := w) (va_runV (As := []) (rest := []) ⟨hx, hb, hml, hown, hts⟩ (c_X6_hour l G d r A mc g N T w H.size hC hNs) (cwV 0 hts gL_law_X6_hour rfl rfl rfl (by decide +kernel) ⟨Nat.le_of_ble_eq_true rfl, Nat.le_of_ble_eq_true rfl⟩) (z_wv hK (z_apL hP) (ci := 7) (q0 := 0) rfl (hC.1.1 0 (by omega)) (z_apL hP) (z_dL hD) hZ hS hA) rfl rfl hl.1 rfl (lv_room (Nat.le_of_ble_eq_true rfl)) dL_law_1169 hrm) hP hD hS hA (fun ra w2 Hz Lz hq hP hD hS => ?_)
  obtain ⟨hra, A2, mc2, g2, hC2⟩ := hq
  subst hra
  rw [← List.append_assoc] at hP hD
  refine lv_aload_n hx hb dL_law_1172 rfl (lv_at hl 3 rfl) ?_
  refine z_li (G := G) (w := mW G q th N T E hg ag mn sd tk sg sn) (wr := w2 ++ ([(o, zOut G f)] : va_W)) (va_runV (As := []) (rest := [.int (nI (N 0))]) ⟨hx, hb, hml, hown, hts⟩ (c_X7_hour l G q th N T E hg ag mn sd tk sg sn K Hz.size hGo.1 (by omega) hM) (cwV 0 hts gL_law_X7_hour rfl rfl rfl (by decide +kernel) ⟨Nat.le_of_ble_eq_true rfl, Nat.le_of_ble_eq_true rfl⟩) (z_uv hK (z_apL (z_psw hP)) (ci := 8) (q0 := 0) rfl rfl (z_apL (z_psw hP)) (z_dL (z_dsw hD))) rfl rfl hl.1 rfl (lv_room (Nat.le_of_ble_eq_true rfl)) dL_law_1173 hrm) (z_psw hP) (z_dsw hD) hS hA (fun rb wm1 Hz Lz hm hP hD hS => ?_)
  obtain ⟨hrb, E1, hg1, ag1, mn1, sd1, tk1, sg1, sn1, rfl, hM1⟩ := hm
  subst hrb
  refine lv_icmp_eq (tgt := 1915) hx hb dL_law_1176 (by decide) (fun _ => ?_) (fun h => absurd rfl h)
  exact z_widen (zUpo (K := K) (N := N) (N2 := N) rfl).1 (zUpo (K := K) (N := N) (N2 := N) rfl).2 (kk N T _ _ _ _ ⟨_, _, _, _, _, _, _, rfl, hC2, ⟨E1, hg1, ag1, mn1, sd1, tk1, sg1, sn1, rfl, hM1⟩, hGo.up⟩ (z_psw hP) (z_dsw hD) hS (lv_sub hl [0, 1, 2, 3, 4] rfl))

set_option maxHeartbeats 4000000 in
set_option maxRecDepth 100000 in
theorem law_c17 {p : Program} {l : Launch} {e : Env} {s : State} {m : MethodId} {below : List Frame} {meth : Method} {c : Code} {b L : Nat} {xs : Nat → Int32} (hL : L ≤ 3072) (hst : l.stackTraces = false) (C0 : zLA p s m c b L xs) {G : zG} {d : Nat} (hE : zLe G d s) {r q : Nat → Nat} {o K : Nat} {N : Nat → Nat} {T : Nat → Nat → Int32} {wz : va_W} {H : Heap} {locs : List Loc} (hw : zLw G d r q o K N T wz) (hi : 6 * K + 6 ≤ L) (hP : va_P G.1 vwCl wz H) (hD : va_D (fun a => s.heap.size ≤ a) wz) (hS : va_S (fun a => s.heap.size ≤ a) s.heap H locs) {ls : Array Slot} (hl : lv_has ls 7 [(4, .int (nI (6 * K))), (0, .ref b), (1, .ref (r 0)), (2, .ref (q 0)), (3, .ref o)]) (kk : zKK p l e s m below meth c b G d r q o K) : W p l e room_1 s m #[Value.ref b] below meth c H locs (zLc K N) (zLs K N) (lw_Z below #[Value.ref b] s) (F0 m 1181 ls []) := by
  obtain ⟨hx, hb, hml, hown, hts, hXs, hbl⟩ := C0
  obtain ⟨hK, hZ, hLx⟩ := hE
  have hA : ∀ a : Nat, s.heap.size ≤ a → (fun a : Nat => s.heap.size ≤ a) a := fun _ h => h
  have hbA : ¬ (fun a : Nat => s.heap.size ≤ a) b := Nat.not_le.mpr hbl
  obtain ⟨A, mc, g, w, wm, th, f, rfl, hC, hMO, hGo⟩ := hw
  obtain ⟨E, hg, ag, mn, sd, tk, sg, sn, rfl, hM⟩ := hMO
  have hK5 : K ≤ 511 := by omega
  have hrm := zRk0 hGo hK5
  have hNs : sSm N := sSm.of hGo.1
  refine lv_aload_n hx hb dL_law_1181 rfl (lv_at hl 2 rfl) ?_
  rw [List.append_assoc] at hP hD
  refine z_li (G := G) (w := w) (va_runV (As := []) (rest := []) ⟨hx, hb, hml, hown, hts⟩ (c_X6_entries l G d r A mc g N T w H.size hC hNs) (cwV 0 hts gL_law_X6_entries rfl rfl rfl (by decide +kernel) ⟨Nat.le_of_ble_eq_true rfl, Nat.le_of_ble_eq_true rfl⟩) (z_wv hK (z_apL hP) (ci := 7) (q0 := 0) rfl (hC.1.1 0 (by omega)) (z_apL hP) (z_dL hD) hZ hS hA) rfl rfl hl.1 rfl (lv_room (Nat.le_of_ble_eq_true rfl)) dL_law_1182 hrm) hP hD hS hA (fun ra w2 Hz Lz hq hP hD hS => ?_)
  obtain ⟨hra, A2, mc2, g2, hC2⟩ := hq
  subst hra
  rw [← List.append_assoc] at hP hD
  refine lv_aload_n hx hb dL_law_1185 rfl (lv_at hl 3 rfl) ?_
  refine z_li (G := G) (w := mW G q th N T E hg ag mn sd tk sg sn) (wr := w2 ++ ([(o, zOut G f)] : va_W)) (va_runV (As := []) (rest := [.int (nI (N 1))]) ⟨hx, hb, hml, hown, hts⟩ (c_X7_entries l G q th N T E hg ag mn sd tk sg sn K Hz.size hGo.1 (by omega) hM) (cwV 0 hts gL_law_X7_entries rfl rfl rfl (by decide +kernel) ⟨Nat.le_of_ble_eq_true rfl, Nat.le_of_ble_eq_true rfl⟩) (z_uv hK (z_apL (z_psw hP)) (ci := 8) (q0 := 0) rfl rfl (z_apL (z_psw hP)) (z_dL (z_dsw hD))) rfl rfl hl.1 rfl (lv_room (Nat.le_of_ble_eq_true rfl)) dL_law_1186 hrm) (z_psw hP) (z_dsw hD) hS hA (fun rb wm1 Hz Lz hm hP hD hS => ?_)
  obtain ⟨hrb, E1, hg1, ag1, mn1, sd1, tk1, sg1, sn1, rfl, hM1⟩ := hm
  subst hrb
  refine lv_icmp_eq (tgt := 1915) hx hb dL_law_1189 (by decide) (fun _ => ?_) (fun h => absurd rfl h)
  exact z_widen (zUpo (K := K) (N := N) (N2 := N) rfl).1 (zUpo (K := K) (N := N) (N2 := N) rfl).2 (kk N T _ _ _ _ ⟨_, _, _, _, _, _, _, rfl, hC2, ⟨E1, hg1, ag1, mn1, sd1, tk1, sg1, sn1, rfl, hM1⟩, hGo.up⟩ (z_psw hP) (z_dsw hD) hS (lv_sub hl [0, 1, 2, 3, 4] rfl))

set_option maxHeartbeats 4000000 in
set_option maxRecDepth 100000 in
theorem law_c18 {p : Program} {l : Launch} {e : Env} {s : State} {m : MethodId} {below : List Frame} {meth : Method} {c : Code} {b L : Nat} {xs : Nat → Int32} (hL : L ≤ 3072) (hst : l.stackTraces = false) (C0 : zLA p s m c b L xs) {G : zG} {d : Nat} (hE : zLe G d s) {r q : Nat → Nat} {o K : Nat} {N : Nat → Nat} {T : Nat → Nat → Int32} {wz : va_W} {H : Heap} {locs : List Loc} (hw : zLw G d r q o K N T wz) (hi : 6 * K + 6 ≤ L) (hP : va_P G.1 vwCl wz H) (hD : va_D (fun a => s.heap.size ≤ a) wz) (hS : va_S (fun a => s.heap.size ≤ a) s.heap H locs) {ls : Array Slot} (hl : lv_has ls 7 [(4, .int (nI (6 * K))), (0, .ref b), (1, .ref (r 0)), (2, .ref (q 0)), (3, .ref o)]) (kk : zKK p l e s m below meth c b G d r q o K) : W p l e room_1 s m #[Value.ref b] below meth c H locs (zLc K N) (zLs K N) (lw_Z below #[Value.ref b] s) (F0 m 1194 ls []) := by
  obtain ⟨hx, hb, hml, hown, hts, hXs, hbl⟩ := C0
  obtain ⟨hK, hZ, hLx⟩ := hE
  have hA : ∀ a : Nat, s.heap.size ≤ a → (fun a : Nat => s.heap.size ≤ a) a := fun _ h => h
  have hbA : ¬ (fun a : Nat => s.heap.size ≤ a) b := Nat.not_le.mpr hbl
  obtain ⟨A, mc, g, w, wm, th, f, rfl, hC, hMO, hGo⟩ := hw
  obtain ⟨E, hg, ag, mn, sd, tk, sg, sn, rfl, hM⟩ := hMO
  have hK5 : K ≤ 511 := by omega
  obtain ⟨a1, hz1⟩ : ∃ y, y = xs (6 * K + 1) := ⟨_, rfl⟩
  have hrm := zRk8 hGo hK5
  refine lv_aload_n hx hb dL_law_1194 rfl (lv_at hl 2 rfl) ?_
  refine z_arg hx hb hXs hbl hbA hS (k := 1) (lv_at hl 1 rfl) (lv_at hl 0 rfl) (by decide) (by omega) hL hz1 dL_law_1195 dL_law_1196 dL_law_1198 dL_law_1199 dL_law_1200 ?_
  refine lv_aload_n hx hb dL_law_1201 rfl (lv_at hl 4 rfl) ?_
  refine z_xi (G := G) (w := (w ++ ([(o, zOut G f)] : va_W))) (vx_runSX (hh := [(0, 9, 12, 13)]) (As := [.ref (r 0), .int a1, .ref o]) (rest := []) ⟨hx, hb, hml, hown, hts⟩ (h_entryAt l hst G d r A mc g N T w K a1 o f H.size hC hGo.1 hK5 ) (vx_cwSW 3 hts gL_law_L_entryAt rfl rfl rfl (by decide +kernel) ⟨Nat.le_of_ble_eq_true rfl, Nat.le_of_ble_eq_true rfl⟩) (z_hs hK (z_apL hP) (z_dL hD) hZ hLx hS hA) rfl rfl hl.1 rfl (lv_room (Nat.le_of_ble_eq_true rfl)) dL_law_1202 hrm) hP hD hS hA (fun i E ce q9 Hz Lz hk hE hP hS hce hcv hcl => absurd hE (by simp)) (fun k5 w1 Hz Lz hq hP hD hS => ?_)
  obtain ⟨hk5, w2, f2, rfl, h0, h1⟩ := hq
  subst hk5
  refine lv_istore (lv' := [(5, .int (sK1 (sIx a1 (N 1)))), (4, .int (nI (6 * K))), (0, .ref b), (1, .ref (r 0)), (2, .ref (q 0)), (3, .ref o)]) hx hb dL_law_1205 hl (by decide) rfl (fun ls hl => ?_)
  refine lv_aload_n hx hb dL_law_1207 rfl (lv_at hl 4 rfl) ?_
  refine z_arg hx hb hXs hbl hbA hS (k := 1) (lv_at hl 2 rfl) (lv_at hl 1 rfl) (by decide) (by omega) hL hz1 dL_law_1208 dL_law_1209 dL_law_1211 dL_law_1212 dL_law_1213 ?_
  refine z_li (G := G) (w := mW G q th N T E hg ag mn sd tk sg sn) (wr := w2 ++ ([(o, zOut G f2)] : va_W)) (va_runV (As := [.int a1]) (rest := []) ⟨hx, hb, hml, hown, hts⟩ (c_X7_entryAt l G q th N T E hg ag mn sd tk sg sn a1 K Hz.size hGo.1 (by omega) hM ) (cwV 1 hts gL_law_X7_entryAt rfl rfl rfl (by decide +kernel) ⟨Nat.le_of_ble_eq_true rfl, Nat.le_of_ble_eq_true rfl⟩) (z_uv hK (z_apL (z_psw hP)) (ci := 8) (q0 := 0) rfl rfl (z_apL (z_psw hP)) (z_dL (z_dsw hD))) rfl rfl hl.1 rfl (lv_room (Nat.le_of_ble_eq_true rfl)) dL_law_1214 hrm) (z_psw hP) (z_dsw hD) hS hA (fun rb wm1 Hz Lz hm hP hD hS => ?_)
  by_cases hk : sK1 (sIx a1 (N 1)) = 0
  · skip
    obtain ⟨hrb, E1, hg1, ag1, mn1, sd1, tk1, sg1, sn1, rfl, hM1⟩ := hm.1 hk
    obtain ⟨hf2, A2, mc2, g2, hC2⟩ := h0 hk
    subst hrb
    refine lv_istore (lv' := [(6, .int (T 0 a1.toNatClampNeg)), (5, .int (sK1 (sIx a1 (N 1)))), (4, .int (nI (6 * K))), (0, .ref b), (1, .ref (r 0)), (2, .ref (q 0)), (3, .ref o)]) hx hb dL_law_1217 hl (by decide) rfl (fun ls hl => ?_)
    refine lv_aload_n hx hb dL_law_1219 rfl (lv_at hl 5 rfl) ?_
    refine z_csi (va_Run.run (va_runV (As := []) (rest := []) ⟨hx, hb, hml, hown, hts⟩ (c_X7_thrown l G q (sK1 (sIx a1 (N 1))) N T E1 hg1 ag1 mn1 sd1 tk1 sg1 sn1) (cwV 0 hts gL_law_X7_thrown rfl rfl rfl (by decide +kernel) ⟨Nat.le_of_ble_eq_true rfl, Nat.le_of_ble_eq_true rfl⟩) (z_pv hK (z_apL hP) (ci := 8) (q0 := 0) rfl rfl (z_apL hP)) rfl rfl hl.1 rfl (lv_room (Nat.le_of_ble_eq_true rfl)) dL_law_1220 hrm)) (fun zt hzt => ?_)
    subst hzt
    refine lv_iload hx hb dL_law_1223 (lv_at hl 1 rfl) ?_
    refine lv_icmp_eq (tgt := 1230) hx hb dL_law_1225 (by decide) (fun _ => ?_) (fun h => absurd rfl h)
    refine lv_iload hx hb dL_law_1230 (lv_at hl 1 rfl) ?_
    refine lv_if_ne (tgt := 1247) hx hb dL_law_1232 (by decide) (fun h => absurd hk h) (fun _ => ?_)
    refine lv_aload_n hx hb dL_law_1235 rfl (lv_at hl 6 rfl) ?_
    refine lv_iconst (v := 0) hx hb dL_law_1236 (by decide) ?_
    refine va_lald hx hb hK (z_apR hP) w2.length 1 z_atx rfl (vp_in_nI (n := 0) (by decide) (by decide)) dL_law_1237 ?_
    rw [show f2 (0 : Int32).toNatClampNeg = (T 0 a1.toNatClampNeg : Int32).toInt64 from hf2]
    refine lv_iload hx hb dL_law_1238 (lv_at hl 0 rfl) ?_
    refine lv_i2l (v := (T 0 a1.toNatClampNeg : Int32).toInt64) hx hb dL_law_1240 rfl ?_
    refine W.lcmp hx hb dL_law_1241 ?_
    rw [zcmp rfl]
    refine lv_if_eq (tgt := 1247) hx hb dL_law_1242 (by decide) (fun _ => ?_) (fun h => absurd rfl h)
    refine lv_goto (tgt := 1915) hx hb dL_law_1247 (by decide) ?_
    exact z_widen (zUp8 (K := K) (N := N) (N2 := N) rfl).1 (zUp8 (K := K) (N := N) (N2 := N) rfl).2 (kk N T _ _ _ _ ⟨_, _, _, _, _, _, _, rfl, hC2, ⟨E1, hg1, ag1, mn1, sd1, tk1, sg1, sn1, rfl, hM1⟩, hGo.up⟩ (z_psw hP) (z_dsw hD) hS (lv_sub hl [2, 3, 4, 5, 6] rfl))
  · skip
    obtain ⟨E1, hg1, ag1, mn1, sd1, tk1, sg1, sn1, rfl, hM1⟩ := hm.2 hk
    obtain ⟨A2, mc2, g2, hC2⟩ := h1 hk
    refine lv_istore (lv' := [(6, .int rb), (5, .int (sK1 (sIx a1 (N 1)))), (4, .int (nI (6 * K))), (0, .ref b), (1, .ref (r 0)), (2, .ref (q 0)), (3, .ref o)]) hx hb dL_law_1217 hl (by decide) rfl (fun ls hl => ?_)
    refine lv_aload_n hx hb dL_law_1219 rfl (lv_at hl 5 rfl) ?_
    refine z_csi (va_Run.run (va_runV (As := []) (rest := []) ⟨hx, hb, hml, hown, hts⟩ (c_X7_thrown l G q (sK1 (sIx a1 (N 1))) N T E1 hg1 ag1 mn1 sd1 tk1 sg1 sn1) (cwV 0 hts gL_law_X7_thrown rfl rfl rfl (by decide +kernel) ⟨Nat.le_of_ble_eq_true rfl, Nat.le_of_ble_eq_true rfl⟩) (z_pv hK (z_apL hP) (ci := 8) (q0 := 0) rfl rfl (z_apL hP)) rfl rfl hl.1 rfl (lv_room (Nat.le_of_ble_eq_true rfl)) dL_law_1220 hrm)) (fun zt hzt => ?_)
    subst hzt
    refine lv_iload hx hb dL_law_1223 (lv_at hl 1 rfl) ?_
    refine lv_icmp_eq (tgt := 1230) hx hb dL_law_1225 (by decide) (fun _ => ?_) (fun h => absurd rfl h)
    refine lv_iload hx hb dL_law_1230 (lv_at hl 1 rfl) ?_
    refine lv_if_ne (tgt := 1247) hx hb dL_law_1232 (by decide) (fun _ => ?_) (fun h => absurd h hk)
    refine lv_goto (tgt := 1915) hx hb dL_law_1247 (by decide) ?_
    exact z_widen (zUp8 (K := K) (N := N) (N2 := N) rfl).1 (zUp8 (K := K) (N := N) (N2 := N) rfl).2 (kk N T _ _ _ _ ⟨_, _, _, _, _, _, _, rfl, hC2, ⟨E1, hg1, ag1, mn1, sd1, tk1, sg1, sn1, rfl, hM1⟩, hGo.up⟩ (z_psw hP) (z_dsw hD) hS (lv_sub hl [2, 3, 4, 5, 6] rfl))

set_option maxHeartbeats 4000000 in
set_option maxRecDepth 100000 in
theorem law_c19 {p : Program} {l : Launch} {e : Env} {s : State} {m : MethodId} {below : List Frame} {meth : Method} {c : Code} {b L : Nat} {xs : Nat → Int32} (hL : L ≤ 3072) (hst : l.stackTraces = false) (C0 : zLA p s m c b L xs) {G : zG} {d : Nat} (hE : zLe G d s) {r q : Nat → Nat} {o K : Nat} {N : Nat → Nat} {T : Nat → Nat → Int32} {wz : va_W} {H : Heap} {locs : List Loc} (hw : zLw G d r q o K N T wz) (hi : 6 * K + 6 ≤ L) (hP : va_P G.1 vwCl wz H) (hD : va_D (fun a => s.heap.size ≤ a) wz) (hS : va_S (fun a => s.heap.size ≤ a) s.heap H locs) {ls : Array Slot} (hl : lv_has ls 7 [(4, .int (nI (6 * K))), (0, .ref b), (1, .ref (r 0)), (2, .ref (q 0)), (3, .ref o)]) (kk : zKK p l e s m below meth c b G d r q o K) : W p l e room_1 s m #[Value.ref b] below meth c H locs (zLc K N) (zLs K N) (lw_Z below #[Value.ref b] s) (F0 m 1250 ls []) := by
  obtain ⟨hx, hb, hml, hown, hts, hXs, hbl⟩ := C0
  obtain ⟨hK, hZ, hLx⟩ := hE
  have hA : ∀ a : Nat, s.heap.size ≤ a → (fun a : Nat => s.heap.size ≤ a) a := fun _ h => h
  have hbA : ¬ (fun a : Nat => s.heap.size ≤ a) b := Nat.not_le.mpr hbl
  obtain ⟨A, mc, g, w, wm, th, f, rfl, hC, hMO, hGo⟩ := hw
  obtain ⟨E, hg, ag, mn, sd, tk, sg, sn, rfl, hM⟩ := hMO
  have hK5 : K ≤ 511 := by omega
  obtain ⟨a1, hz1⟩ : ∃ y, y = xs (6 * K + 1) := ⟨_, rfl⟩
  obtain ⟨a2, hz2⟩ : ∃ y, y = xs (6 * K + 2) := ⟨_, rfl⟩
  obtain ⟨t3, hz3⟩ : ∃ y, y = xs (6 * K + 3) := ⟨_, rfl⟩
  obtain ⟨b3, hb3⟩ : ∃ y, y = (!decide (t3 = 0)) := ⟨_, rfl⟩
  obtain ⟨a4, hz4⟩ : ∃ y, y = xs (6 * K + 4) := ⟨_, rfl⟩
  obtain ⟨t5, hz5⟩ : ∃ y, y = xs (6 * K + 5) := ⟨_, rfl⟩
  obtain ⟨b5, hb5⟩ : ∃ y, y = (!decide (t5 = 0)) := ⟨_, rfl⟩
  have hrm := zRk8 hGo hK5
  refine lv_aload_n hx hb dL_law_1250 rfl (lv_at hl 2 rfl) ?_
  refine z_arg hx hb hXs hbl hbA hS (k := 1) (lv_at hl 1 rfl) (lv_at hl 0 rfl) (by decide) (by omega) hL hz1 dL_law_1251 dL_law_1252 dL_law_1254 dL_law_1255 dL_law_1256 ?_
  refine z_arg hx hb hXs hbl hbA hS (k := 2) (lv_at hl 1 rfl) (lv_at hl 0 rfl) (by decide) (by omega) hL hz2 dL_law_1257 dL_law_1258 dL_law_1260 dL_law_1261 dL_law_1262 ?_
  refine z_arg hx hb hXs hbl hbA hS (k := 3) (lv_at hl 1 rfl) (lv_at hl 0 rfl) (by decide) (by omega) hL hz3 dL_law_1263 dL_law_1264 dL_law_1266 dL_law_1267 dL_law_1268 ?_
  refine z_bo hx hb dL_law_1269 dL_law_1272 dL_law_1273 dL_law_1276 ?_
  rw [← hb3]
  refine z_arg hx hb hXs hbl hbA hS (k := 4) (lv_at hl 1 rfl) (lv_at hl 0 rfl) (by decide) (by omega) hL hz4 dL_law_1277 dL_law_1278 dL_law_1280 dL_law_1281 dL_law_1282 ?_
  refine z_arg hx hb hXs hbl hbA hS (k := 5) (lv_at hl 1 rfl) (lv_at hl 0 rfl) (by decide) (by omega) hL hz5 dL_law_1283 dL_law_1284 dL_law_1286 dL_law_1287 dL_law_1288 ?_
  refine z_bo hx hb dL_law_1289 dL_law_1292 dL_law_1293 dL_law_1296 ?_
  rw [← hb5]
  refine lv_aload_n hx hb dL_law_1297 rfl (lv_at hl 4 rfl) ?_
  refine z_xi (G := G) (w := (w ++ ([(o, zOut G f)] : va_W))) (vx_runSX (hh := [(0, 16, 19, 13), (0, 16, 23, 15), (0, 16, 27, 17)]) (As := [.ref (r 0), .int a1, .int a2, .int (zb b3), .int a4, .int (zb b5), .ref o]) (rest := []) ⟨hx, hb, hml, hown, hts⟩ (h_alarm l hst G d r A mc g N T w K a1 a2 b3 a4 b5 o f H.size hC hGo.1 hK5 ) (vx_cwSW 7 hts gL_law_L_alarm rfl rfl rfl (by decide +kernel) ⟨Nat.le_of_ble_eq_true rfl, Nat.le_of_ble_eq_true rfl⟩) (z_hs hK (z_apL hP) (z_dL hD) hZ hLx hS hA) rfl rfl hl.1 rfl (lv_room (Nat.le_of_ble_eq_true rfl)) dL_law_1298 hrm) hP hD hS hA (fun i E ce q9 Hz Lz hk hE hP hS hce hcv hcl => absurd hE (by simp)) (fun k5 w1 Hz Lz hq hP hD hS => ?_)
  obtain ⟨hk5, w2, f2, rfl, h0, h1⟩ := hq
  subst hk5
  refine lv_istore (lv' := [(5, .int (sK3 ((sIx a1 3) && (sIx a4 8)) (sIn a2 0 1000) (!decide (N 3 = 10)))), (4, .int (nI (6 * K))), (0, .ref b), (1, .ref (r 0)), (2, .ref (q 0)), (3, .ref o)]) hx hb dL_law_1301 hl (by decide) rfl (fun ls hl => ?_)
  refine lv_aload_n hx hb dL_law_1303 rfl (lv_at hl 4 rfl) ?_
  refine z_arg hx hb hXs hbl hbA hS (k := 1) (lv_at hl 2 rfl) (lv_at hl 1 rfl) (by decide) (by omega) hL hz1 dL_law_1304 dL_law_1305 dL_law_1307 dL_law_1308 dL_law_1309 ?_
  refine z_arg hx hb hXs hbl hbA hS (k := 2) (lv_at hl 2 rfl) (lv_at hl 1 rfl) (by decide) (by omega) hL hz2 dL_law_1310 dL_law_1311 dL_law_1313 dL_law_1314 dL_law_1315 ?_
  refine z_arg hx hb hXs hbl hbA hS (k := 3) (lv_at hl 2 rfl) (lv_at hl 1 rfl) (by decide) (by omega) hL hz3 dL_law_1316 dL_law_1317 dL_law_1319 dL_law_1320 dL_law_1321 ?_
  refine z_bo hx hb dL_law_1322 dL_law_1325 dL_law_1326 dL_law_1329 ?_
  rw [← hb3]
  refine z_arg hx hb hXs hbl hbA hS (k := 4) (lv_at hl 2 rfl) (lv_at hl 1 rfl) (by decide) (by omega) hL hz4 dL_law_1330 dL_law_1331 dL_law_1333 dL_law_1334 dL_law_1335 ?_
  refine z_arg hx hb hXs hbl hbA hS (k := 5) (lv_at hl 2 rfl) (lv_at hl 1 rfl) (by decide) (by omega) hL hz5 dL_law_1336 dL_law_1337 dL_law_1339 dL_law_1340 dL_law_1341 ?_
  refine z_bo hx hb dL_law_1342 dL_law_1345 dL_law_1346 dL_law_1349 ?_
  rw [← hb5]
  refine z_li (G := G) (w := mW G q th N T E hg ag mn sd tk sg sn) (wr := w2 ++ ([(o, zOut G f2)] : va_W)) (va_runV (As := [.int a1, .int a2, .int (zb b3), .int a4, .int (zb b5)]) (rest := []) ⟨hx, hb, hml, hown, hts⟩ (c_X7_alarm l G q th N T E hg ag mn sd tk sg sn a1 a2 b3 a4 b5 K Hz.size hGo.1 (by omega) hM ) (cwV 5 hts gL_law_X7_alarm rfl rfl rfl (by decide +kernel) ⟨Nat.le_of_ble_eq_true rfl, Nat.le_of_ble_eq_true rfl⟩) (z_uv hK (z_apL (z_psw hP)) (ci := 8) (q0 := 0) rfl rfl (z_apL (z_psw hP)) (z_dL (z_dsw hD))) rfl rfl hl.1 rfl (lv_room (Nat.le_of_ble_eq_true rfl)) dL_law_1350 hrm) (z_psw hP) (z_dsw hD) hS hA (fun rb wm1 Hz Lz hm hP hD hS => ?_)
  by_cases hk : sK3 ((sIx a1 3) && (sIx a4 8)) (sIn a2 0 1000) (!decide (N 3 = 10)) = 0
  · skip
    obtain ⟨hrb, E1, hg1, ag1, mn1, sd1, tk1, sg1, sn1, rfl, hM1⟩ := hm.1 hk
    obtain ⟨hf2, A2, mc2, g2, hC2⟩ := h0 hk
    subst hrb
    refine lv_istore (lv' := [(6, .int (nI (N 3))), (5, .int (sK3 ((sIx a1 3) && (sIx a4 8)) (sIn a2 0 1000) (!decide (N 3 = 10)))), (4, .int (nI (6 * K))), (0, .ref b), (1, .ref (r 0)), (2, .ref (q 0)), (3, .ref o)]) hx hb dL_law_1353 hl (by decide) rfl (fun ls hl => ?_)
    refine lv_aload_n hx hb dL_law_1355 rfl (lv_at hl 5 rfl) ?_
    refine z_csi (va_Run.run (va_runV (As := []) (rest := []) ⟨hx, hb, hml, hown, hts⟩ (c_X7_thrown l G q (sK3 ((sIx a1 3) && (sIx a4 8)) (sIn a2 0 1000) (!decide (N 3 = 10))) ((nAlarm N T a1 a2 b3 a4 b5).1) ((nAlarm N T a1 a2 b3 a4 b5).2) E1 hg1 ag1 mn1 sd1 tk1 sg1 sn1) (cwV 0 hts gL_law_X7_thrown rfl rfl rfl (by decide +kernel) ⟨Nat.le_of_ble_eq_true rfl, Nat.le_of_ble_eq_true rfl⟩) (z_pv hK (z_apL hP) (ci := 8) (q0 := 0) rfl rfl (z_apL hP)) rfl rfl hl.1 rfl (lv_room (Nat.le_of_ble_eq_true rfl)) dL_law_1356 hrm)) (fun zt hzt => ?_)
    subst hzt
    refine lv_iload hx hb dL_law_1359 (lv_at hl 1 rfl) ?_
    refine lv_icmp_eq (tgt := 1366) hx hb dL_law_1361 (by decide) (fun _ => ?_) (fun h => absurd rfl h)
    refine lv_iload hx hb dL_law_1366 (lv_at hl 1 rfl) ?_
    refine lv_if_ne (tgt := 1383) hx hb dL_law_1368 (by decide) (fun h => absurd hk h) (fun _ => ?_)
    refine lv_aload_n hx hb dL_law_1371 rfl (lv_at hl 6 rfl) ?_
    refine lv_iconst (v := 0) hx hb dL_law_1372 (by decide) ?_
    refine va_lald hx hb hK (z_apR hP) w2.length 1 z_atx rfl (vp_in_nI (n := 0) (by decide) (by decide)) dL_law_1373 ?_
    rw [show f2 (0 : Int32).toNatClampNeg = (nI (N 3) : Int32).toInt64 from hf2]
    refine lv_iload hx hb dL_law_1374 (lv_at hl 0 rfl) ?_
    refine lv_i2l (v := (nI (N 3) : Int32).toInt64) hx hb dL_law_1376 rfl ?_
    refine W.lcmp hx hb dL_law_1377 ?_
    rw [zcmp rfl]
    refine lv_if_eq (tgt := 1383) hx hb dL_law_1378 (by decide) (fun _ => ?_) (fun h => absurd rfl h)
    refine lv_goto (tgt := 1915) hx hb dL_law_1383 (by decide) ?_
    exact z_widen (zUp8 (K := K) (N := N) (N2 := ((nAlarm N T a1 a2 b3 a4 b5).1)) rfl).1 (zUp8 (K := K) (N := N) (N2 := ((nAlarm N T a1 a2 b3 a4 b5).1)) rfl).2 (kk ((nAlarm N T a1 a2 b3 a4 b5).1) ((nAlarm N T a1 a2 b3 a4 b5).2) _ _ _ _ ⟨_, _, _, _, _, _, _, rfl, hC2, ⟨E1, hg1, ag1, mn1, sd1, tk1, sg1, sn1, rfl, hM1⟩, (g_alarm hGo hk)⟩ (z_psw hP) (z_dsw hD) hS (lv_sub hl [2, 3, 4, 5, 6] rfl))
  · skip
    obtain ⟨E1, hg1, ag1, mn1, sd1, tk1, sg1, sn1, rfl, hM1⟩ := hm.2 hk
    obtain ⟨A2, mc2, g2, hC2⟩ := h1 hk
    refine lv_istore (lv' := [(6, .int rb), (5, .int (sK3 ((sIx a1 3) && (sIx a4 8)) (sIn a2 0 1000) (!decide (N 3 = 10)))), (4, .int (nI (6 * K))), (0, .ref b), (1, .ref (r 0)), (2, .ref (q 0)), (3, .ref o)]) hx hb dL_law_1353 hl (by decide) rfl (fun ls hl => ?_)
    refine lv_aload_n hx hb dL_law_1355 rfl (lv_at hl 5 rfl) ?_
    refine z_csi (va_Run.run (va_runV (As := []) (rest := []) ⟨hx, hb, hml, hown, hts⟩ (c_X7_thrown l G q (sK3 ((sIx a1 3) && (sIx a4 8)) (sIn a2 0 1000) (!decide (N 3 = 10))) N T E1 hg1 ag1 mn1 sd1 tk1 sg1 sn1) (cwV 0 hts gL_law_X7_thrown rfl rfl rfl (by decide +kernel) ⟨Nat.le_of_ble_eq_true rfl, Nat.le_of_ble_eq_true rfl⟩) (z_pv hK (z_apL hP) (ci := 8) (q0 := 0) rfl rfl (z_apL hP)) rfl rfl hl.1 rfl (lv_room (Nat.le_of_ble_eq_true rfl)) dL_law_1356 hrm)) (fun zt hzt => ?_)
    subst hzt
    refine lv_iload hx hb dL_law_1359 (lv_at hl 1 rfl) ?_
    refine lv_icmp_eq (tgt := 1366) hx hb dL_law_1361 (by decide) (fun _ => ?_) (fun h => absurd rfl h)
    refine lv_iload hx hb dL_law_1366 (lv_at hl 1 rfl) ?_
    refine lv_if_ne (tgt := 1383) hx hb dL_law_1368 (by decide) (fun _ => ?_) (fun h => absurd h hk)
    refine lv_goto (tgt := 1915) hx hb dL_law_1383 (by decide) ?_
    exact z_widen (zUp8 (K := K) (N := N) (N2 := N) rfl).1 (zUp8 (K := K) (N := N) (N2 := N) rfl).2 (kk N T _ _ _ _ ⟨_, _, _, _, _, _, _, rfl, hC2, ⟨E1, hg1, ag1, mn1, sd1, tk1, sg1, sn1, rfl, hM1⟩, hGo.up⟩ (z_psw hP) (z_dsw hD) hS (lv_sub hl [2, 3, 4, 5, 6] rfl))

set_option maxHeartbeats 4000000 in
set_option maxRecDepth 100000 in
theorem law_c20 {p : Program} {l : Launch} {e : Env} {s : State} {m : MethodId} {below : List Frame} {meth : Method} {c : Code} {b L : Nat} {xs : Nat → Int32} (hL : L ≤ 3072) (hst : l.stackTraces = false) (C0 : zLA p s m c b L xs) {G : zG} {d : Nat} (hE : zLe G d s) {r q : Nat → Nat} {o K : Nat} {N : Nat → Nat} {T : Nat → Nat → Int32} {wz : va_W} {H : Heap} {locs : List Loc} (hw : zLw G d r q o K N T wz) (hi : 6 * K + 6 ≤ L) (hP : va_P G.1 vwCl wz H) (hD : va_D (fun a => s.heap.size ≤ a) wz) (hS : va_S (fun a => s.heap.size ≤ a) s.heap H locs) {ls : Array Slot} (hl : lv_has ls 7 [(4, .int (nI (6 * K))), (0, .ref b), (1, .ref (r 0)), (2, .ref (q 0)), (3, .ref o)]) (kk : zKK p l e s m below meth c b G d r q o K) : W p l e room_1 s m #[Value.ref b] below meth c H locs (zLc K N) (zLs K N) (lw_Z below #[Value.ref b] s) (F0 m 1386 ls []) := by
  obtain ⟨hx, hb, hml, hown, hts, hXs, hbl⟩ := C0
  obtain ⟨hK, hZ, hLx⟩ := hE
  have hA : ∀ a : Nat, s.heap.size ≤ a → (fun a : Nat => s.heap.size ≤ a) a := fun _ h => h
  have hbA : ¬ (fun a : Nat => s.heap.size ≤ a) b := Nat.not_le.mpr hbl
  obtain ⟨A, mc, g, w, wm, th, f, rfl, hC, hMO, hGo⟩ := hw
  obtain ⟨E, hg, ag, mn, sd, tk, sg, sn, rfl, hM⟩ := hMO
  have hK5 : K ≤ 511 := by omega
  obtain ⟨a1, hz1⟩ : ∃ y, y = xs (6 * K + 1) := ⟨_, rfl⟩
  have hrm := zRk8 hGo hK5
  refine lv_aload_n hx hb dL_law_1386 rfl (lv_at hl 2 rfl) ?_
  refine z_arg hx hb hXs hbl hbA hS (k := 1) (lv_at hl 1 rfl) (lv_at hl 0 rfl) (by decide) (by omega) hL hz1 dL_law_1387 dL_law_1388 dL_law_1390 dL_law_1391 dL_law_1392 ?_
  refine lv_aload_n hx hb dL_law_1393 rfl (lv_at hl 4 rfl) ?_
  refine z_xi (G := G) (w := (w ++ ([(o, zOut G f)] : va_W))) (vx_runSX (hh := [(0, 9, 12, 13)]) (As := [.ref (r 0), .int a1, .ref o]) (rest := []) ⟨hx, hb, hml, hown, hts⟩ (h_stateOf l hst G d r A mc g N T w K a1 o f H.size hC hGo.1 hK5 ) (vx_cwSW 3 hts gL_law_L_stateOf rfl rfl rfl (by decide +kernel) ⟨Nat.le_of_ble_eq_true rfl, Nat.le_of_ble_eq_true rfl⟩) (z_hs hK (z_apL hP) (z_dL hD) hZ hLx hS hA) rfl rfl hl.1 rfl (lv_room (Nat.le_of_ble_eq_true rfl)) dL_law_1394 hrm) hP hD hS hA (fun i E ce q9 Hz Lz hk hE hP hS hce hcv hcl => absurd hE (by simp)) (fun k5 w1 Hz Lz hq hP hD hS => ?_)
  obtain ⟨hk5, w2, f2, rfl, h0, h1⟩ := hq
  subst hk5
  refine lv_istore (lv' := [(5, .int (sK1 (sIx a1 (N 3)))), (4, .int (nI (6 * K))), (0, .ref b), (1, .ref (r 0)), (2, .ref (q 0)), (3, .ref o)]) hx hb dL_law_1397 hl (by decide) rfl (fun ls hl => ?_)
  refine lv_aload_n hx hb dL_law_1399 rfl (lv_at hl 4 rfl) ?_
  refine z_arg hx hb hXs hbl hbA hS (k := 1) (lv_at hl 2 rfl) (lv_at hl 1 rfl) (by decide) (by omega) hL hz1 dL_law_1400 dL_law_1401 dL_law_1403 dL_law_1404 dL_law_1405 ?_
  refine z_li (G := G) (w := mW G q th N T E hg ag mn sd tk sg sn) (wr := w2 ++ ([(o, zOut G f2)] : va_W)) (va_runV (As := [.int a1]) (rest := []) ⟨hx, hb, hml, hown, hts⟩ (c_X7_stateOf l G q th N T E hg ag mn sd tk sg sn a1 K Hz.size hGo.1 (by omega) hM ) (cwV 1 hts gL_law_X7_stateOf rfl rfl rfl (by decide +kernel) ⟨Nat.le_of_ble_eq_true rfl, Nat.le_of_ble_eq_true rfl⟩) (z_uv hK (z_apL (z_psw hP)) (ci := 8) (q0 := 0) rfl rfl (z_apL (z_psw hP)) (z_dL (z_dsw hD))) rfl rfl hl.1 rfl (lv_room (Nat.le_of_ble_eq_true rfl)) dL_law_1406 hrm) (z_psw hP) (z_dsw hD) hS hA (fun rb wm1 Hz Lz hm hP hD hS => ?_)
  by_cases hk : sK1 (sIx a1 (N 3)) = 0
  · skip
    obtain ⟨hrb, E1, hg1, ag1, mn1, sd1, tk1, sg1, sn1, rfl, hM1⟩ := hm.1 hk
    obtain ⟨hf2, A2, mc2, g2, hC2⟩ := h0 hk
    subst hrb
    refine lv_istore (lv' := [(6, .int (T 16 a1.toNatClampNeg)), (5, .int (sK1 (sIx a1 (N 3)))), (4, .int (nI (6 * K))), (0, .ref b), (1, .ref (r 0)), (2, .ref (q 0)), (3, .ref o)]) hx hb dL_law_1409 hl (by decide) rfl (fun ls hl => ?_)
    refine lv_aload_n hx hb dL_law_1411 rfl (lv_at hl 5 rfl) ?_
    refine z_csi (va_Run.run (va_runV (As := []) (rest := []) ⟨hx, hb, hml, hown, hts⟩ (c_X7_thrown l G q (sK1 (sIx a1 (N 3))) N T E1 hg1 ag1 mn1 sd1 tk1 sg1 sn1) (cwV 0 hts gL_law_X7_thrown rfl rfl rfl (by decide +kernel) ⟨Nat.le_of_ble_eq_true rfl, Nat.le_of_ble_eq_true rfl⟩) (z_pv hK (z_apL hP) (ci := 8) (q0 := 0) rfl rfl (z_apL hP)) rfl rfl hl.1 rfl (lv_room (Nat.le_of_ble_eq_true rfl)) dL_law_1412 hrm)) (fun zt hzt => ?_)
    subst hzt
    refine lv_iload hx hb dL_law_1415 (lv_at hl 1 rfl) ?_
    refine lv_icmp_eq (tgt := 1422) hx hb dL_law_1417 (by decide) (fun _ => ?_) (fun h => absurd rfl h)
    refine lv_iload hx hb dL_law_1422 (lv_at hl 1 rfl) ?_
    refine lv_if_ne (tgt := 1439) hx hb dL_law_1424 (by decide) (fun h => absurd hk h) (fun _ => ?_)
    refine lv_aload_n hx hb dL_law_1427 rfl (lv_at hl 6 rfl) ?_
    refine lv_iconst (v := 0) hx hb dL_law_1428 (by decide) ?_
    refine va_lald hx hb hK (z_apR hP) w2.length 1 z_atx rfl (vp_in_nI (n := 0) (by decide) (by decide)) dL_law_1429 ?_
    rw [show f2 (0 : Int32).toNatClampNeg = (T 16 a1.toNatClampNeg : Int32).toInt64 from hf2]
    refine lv_iload hx hb dL_law_1430 (lv_at hl 0 rfl) ?_
    refine lv_i2l (v := (T 16 a1.toNatClampNeg : Int32).toInt64) hx hb dL_law_1432 rfl ?_
    refine W.lcmp hx hb dL_law_1433 ?_
    rw [zcmp rfl]
    refine lv_if_eq (tgt := 1439) hx hb dL_law_1434 (by decide) (fun _ => ?_) (fun h => absurd rfl h)
    refine lv_goto (tgt := 1915) hx hb dL_law_1439 (by decide) ?_
    exact z_widen (zUp8 (K := K) (N := N) (N2 := N) rfl).1 (zUp8 (K := K) (N := N) (N2 := N) rfl).2 (kk N T _ _ _ _ ⟨_, _, _, _, _, _, _, rfl, hC2, ⟨E1, hg1, ag1, mn1, sd1, tk1, sg1, sn1, rfl, hM1⟩, hGo.up⟩ (z_psw hP) (z_dsw hD) hS (lv_sub hl [2, 3, 4, 5, 6] rfl))
  · skip
    obtain ⟨E1, hg1, ag1, mn1, sd1, tk1, sg1, sn1, rfl, hM1⟩ := hm.2 hk
    obtain ⟨A2, mc2, g2, hC2⟩ := h1 hk
    refine lv_istore (lv' := [(6, .int rb), (5, .int (sK1 (sIx a1 (N 3)))), (4, .int (nI (6 * K))), (0, .ref b), (1, .ref (r 0)), (2, .ref (q 0)), (3, .ref o)]) hx hb dL_law_1409 hl (by decide) rfl (fun ls hl => ?_)
    refine lv_aload_n hx hb dL_law_1411 rfl (lv_at hl 5 rfl) ?_
    refine z_csi (va_Run.run (va_runV (As := []) (rest := []) ⟨hx, hb, hml, hown, hts⟩ (c_X7_thrown l G q (sK1 (sIx a1 (N 3))) N T E1 hg1 ag1 mn1 sd1 tk1 sg1 sn1) (cwV 0 hts gL_law_X7_thrown rfl rfl rfl (by decide +kernel) ⟨Nat.le_of_ble_eq_true rfl, Nat.le_of_ble_eq_true rfl⟩) (z_pv hK (z_apL hP) (ci := 8) (q0 := 0) rfl rfl (z_apL hP)) rfl rfl hl.1 rfl (lv_room (Nat.le_of_ble_eq_true rfl)) dL_law_1412 hrm)) (fun zt hzt => ?_)
    subst hzt
    refine lv_iload hx hb dL_law_1415 (lv_at hl 1 rfl) ?_
    refine lv_icmp_eq (tgt := 1422) hx hb dL_law_1417 (by decide) (fun _ => ?_) (fun h => absurd rfl h)
    refine lv_iload hx hb dL_law_1422 (lv_at hl 1 rfl) ?_
    refine lv_if_ne (tgt := 1439) hx hb dL_law_1424 (by decide) (fun _ => ?_) (fun h => absurd h hk)
    refine lv_goto (tgt := 1915) hx hb dL_law_1439 (by decide) ?_
    exact z_widen (zUp8 (K := K) (N := N) (N2 := N) rfl).1 (zUp8 (K := K) (N := N) (N2 := N) rfl).2 (kk N T _ _ _ _ ⟨_, _, _, _, _, _, _, rfl, hC2, ⟨E1, hg1, ag1, mn1, sd1, tk1, sg1, sn1, rfl, hM1⟩, hGo.up⟩ (z_psw hP) (z_dsw hD) hS (lv_sub hl [2, 3, 4, 5, 6] rfl))

set_option maxHeartbeats 4000000 in
set_option maxRecDepth 100000 in
theorem law_c21 {p : Program} {l : Launch} {e : Env} {s : State} {m : MethodId} {below : List Frame} {meth : Method} {c : Code} {b L : Nat} {xs : Nat → Int32} (hL : L ≤ 3072) (hst : l.stackTraces = false) (C0 : zLA p s m c b L xs) {G : zG} {d : Nat} (hE : zLe G d s) {r q : Nat → Nat} {o K : Nat} {N : Nat → Nat} {T : Nat → Nat → Int32} {wz : va_W} {H : Heap} {locs : List Loc} (hw : zLw G d r q o K N T wz) (hi : 6 * K + 6 ≤ L) (hP : va_P G.1 vwCl wz H) (hD : va_D (fun a => s.heap.size ≤ a) wz) (hS : va_S (fun a => s.heap.size ≤ a) s.heap H locs) {ls : Array Slot} (hl : lv_has ls 7 [(4, .int (nI (6 * K))), (0, .ref b), (1, .ref (r 0)), (2, .ref (q 0)), (3, .ref o)]) (kk : zKK p l e s m below meth c b G d r q o K) : W p l e room_1 s m #[Value.ref b] below meth c H locs (zLc K N) (zLs K N) (lw_Z below #[Value.ref b] s) (F0 m 1442 ls []) := by
  obtain ⟨hx, hb, hml, hown, hts, hXs, hbl⟩ := C0
  obtain ⟨hK, hZ, hLx⟩ := hE
  have hA : ∀ a : Nat, s.heap.size ≤ a → (fun a : Nat => s.heap.size ≤ a) a := fun _ h => h
  have hbA : ¬ (fun a : Nat => s.heap.size ≤ a) b := Nat.not_le.mpr hbl
  obtain ⟨A, mc, g, w, wm, th, f, rfl, hC, hMO, hGo⟩ := hw
  obtain ⟨E, hg, ag, mn, sd, tk, sg, sn, rfl, hM⟩ := hMO
  have hK5 : K ≤ 511 := by omega
  obtain ⟨a1, hz1⟩ : ∃ y, y = xs (6 * K + 1) := ⟨_, rfl⟩
  obtain ⟨t2, hz2⟩ : ∃ y, y = xs (6 * K + 2) := ⟨_, rfl⟩
  obtain ⟨a2, hc2⟩ : ∃ y, y = (t2.toUInt32 % 65536).toInt32 := ⟨_, rfl⟩
  have hx9 : ∃ x : Nat, x < 65536 ∧ a2 = nI x := by rw [hc2]; exact zch
  have hrm := zRk8 hGo hK5
  refine lv_aload_n hx hb dL_law_1442 rfl (lv_at hl 2 rfl) ?_
  refine z_arg hx hb hXs hbl hbA hS (k := 1) (lv_at hl 1 rfl) (lv_at hl 0 rfl) (by decide) (by omega) hL hz1 dL_law_1443 dL_law_1444 dL_law_1446 dL_law_1447 dL_law_1448 ?_
  refine z_arg hx hb hXs hbl hbA hS (k := 2) (lv_at hl 1 rfl) (lv_at hl 0 rfl) (by decide) (by omega) hL hz2 dL_law_1449 dL_law_1450 dL_law_1452 dL_law_1453 dL_law_1454 ?_
  refine lv_i2c (v := a2) hx hb dL_law_1455 hc2.symm ?_
  refine lv_aload_n hx hb dL_law_1456 rfl (lv_at hl 4 rfl) ?_
  refine z_xi (G := G) (w := (w ++ ([(o, zOut G f)] : va_W))) (vx_runSX (hh := [(0, 10, 13, 15), (0, 10, 17, 17)]) (As := [.ref (r 0), .int a1, .int a2, .ref o]) (rest := []) ⟨hx, hb, hml, hown, hts⟩ (h_insert l hst G d r A mc g N T w K a1 a2 o f H.size hC hGo.1 hK5 hx9) (vx_cwSW 4 hts gL_law_L_insert rfl rfl rfl (by decide +kernel) ⟨Nat.le_of_ble_eq_true rfl, Nat.le_of_ble_eq_true rfl⟩) (z_hs hK (z_apL hP) (z_dL hD) hZ hLx hS hA) rfl rfl hl.1 rfl (lv_room (Nat.le_of_ble_eq_true rfl)) dL_law_1457 hrm) hP hD hS hA (fun i E ce q9 Hz Lz hk hE hP hS hce hcv hcl => absurd hE (by simp)) (fun k5 w1 Hz Lz hq hP hD hS => ?_)
  obtain ⟨hk5, w2, f2, rfl, h0, h1⟩ := hq
  subst hk5
  refine lv_istore (lv' := [(5, .int (sK2 (sIn a1 0 (nI (N 4))) (!decide (N 4 = 40)))), (4, .int (nI (6 * K))), (0, .ref b), (1, .ref (r 0)), (2, .ref (q 0)), (3, .ref o)]) hx hb dL_law_1460 hl (by decide) rfl (fun ls hl => ?_)
  refine lv_aload_n hx hb dL_law_1462 rfl (lv_at hl 4 rfl) ?_
  refine z_arg hx hb hXs hbl hbA hS (k := 1) (lv_at hl 2 rfl) (lv_at hl 1 rfl) (by decide) (by omega) hL hz1 dL_law_1463 dL_law_1464 dL_law_1466 dL_law_1467 dL_law_1468 ?_
  refine z_arg hx hb hXs hbl hbA hS (k := 2) (lv_at hl 2 rfl) (lv_at hl 1 rfl) (by decide) (by omega) hL hz2 dL_law_1469 dL_law_1470 dL_law_1472 dL_law_1473 dL_law_1474 ?_
  refine lv_i2c (v := a2) hx hb dL_law_1475 hc2.symm ?_
  refine z_li (G := G) (w := mW G q th N T E hg ag mn sd tk sg sn) (wr := w2 ++ ([(o, zOut G f2)] : va_W)) (va_runV (As := [.int a1, .int a2]) (rest := []) ⟨hx, hb, hml, hown, hts⟩ (c_X7_insert l G q th N T E hg ag mn sd tk sg sn a1 a2 K Hz.size hGo.1 (by omega) hM hx9) (cwV 2 hts gL_law_X7_insert rfl rfl rfl (by decide +kernel) ⟨Nat.le_of_ble_eq_true rfl, Nat.le_of_ble_eq_true rfl⟩) (z_uv hK (z_apL (z_psw hP)) (ci := 8) (q0 := 0) rfl rfl (z_apL (z_psw hP)) (z_dL (z_dsw hD))) rfl rfl hl.1 rfl (lv_room (Nat.le_of_ble_eq_true rfl)) dL_law_1476 hrm) (z_psw hP) (z_dsw hD) hS hA (fun rb wm1 Hz Lz hm hP hD hS => ?_)
  by_cases hk : sK2 (sIn a1 0 (nI (N 4))) (!decide (N 4 = 40)) = 0
  · skip
    obtain ⟨hrb, E1, hg1, ag1, mn1, sd1, tk1, sg1, sn1, rfl, hM1⟩ := hm.1 hk
    obtain ⟨hf2, A2, mc2, g2, hC2⟩ := h0 hk
    subst hrb
    refine lv_istore (lv' := [(6, .int (nI (N 4 + 1))), (5, .int (sK2 (sIn a1 0 (nI (N 4))) (!decide (N 4 = 40)))), (4, .int (nI (6 * K))), (0, .ref b), (1, .ref (r 0)), (2, .ref (q 0)), (3, .ref o)]) hx hb dL_law_1479 hl (by decide) rfl (fun ls hl => ?_)
    refine lv_aload_n hx hb dL_law_1481 rfl (lv_at hl 5 rfl) ?_
    refine z_csi (va_Run.run (va_runV (As := []) (rest := []) ⟨hx, hb, hml, hown, hts⟩ (c_X7_thrown l G q (sK2 (sIn a1 0 (nI (N 4))) (!decide (N 4 = 40))) ((nIns N T a1 a2).1) ((nIns N T a1 a2).2) E1 hg1 ag1 mn1 sd1 tk1 sg1 sn1) (cwV 0 hts gL_law_X7_thrown rfl rfl rfl (by decide +kernel) ⟨Nat.le_of_ble_eq_true rfl, Nat.le_of_ble_eq_true rfl⟩) (z_pv hK (z_apL hP) (ci := 8) (q0 := 0) rfl rfl (z_apL hP)) rfl rfl hl.1 rfl (lv_room (Nat.le_of_ble_eq_true rfl)) dL_law_1482 hrm)) (fun zt hzt => ?_)
    subst hzt
    refine lv_iload hx hb dL_law_1485 (lv_at hl 1 rfl) ?_
    refine lv_icmp_eq (tgt := 1492) hx hb dL_law_1487 (by decide) (fun _ => ?_) (fun h => absurd rfl h)
    refine lv_iload hx hb dL_law_1492 (lv_at hl 1 rfl) ?_
    refine lv_if_ne (tgt := 1509) hx hb dL_law_1494 (by decide) (fun h => absurd hk h) (fun _ => ?_)
    refine lv_aload_n hx hb dL_law_1497 rfl (lv_at hl 6 rfl) ?_
    refine lv_iconst (v := 0) hx hb dL_law_1498 (by decide) ?_
    refine va_lald hx hb hK (z_apR hP) w2.length 1 z_atx rfl (vp_in_nI (n := 0) (by decide) (by decide)) dL_law_1499 ?_
    rw [show f2 (0 : Int32).toNatClampNeg = (nI (N 4 + 1) : Int32).toInt64 from hf2]
    refine lv_iload hx hb dL_law_1500 (lv_at hl 0 rfl) ?_
    refine lv_i2l (v := (nI (N 4 + 1) : Int32).toInt64) hx hb dL_law_1502 rfl ?_
    refine W.lcmp hx hb dL_law_1503 ?_
    rw [zcmp rfl]
    refine lv_if_eq (tgt := 1509) hx hb dL_law_1504 (by decide) (fun _ => ?_) (fun h => absurd rfl h)
    refine lv_goto (tgt := 1915) hx hb dL_law_1509 (by decide) ?_
    exact z_widen (zUp8 (K := K) (N := N) (N2 := ((nIns N T a1 a2).1)) rfl).1 (zUp8 (K := K) (N := N) (N2 := ((nIns N T a1 a2).1)) rfl).2 (kk ((nIns N T a1 a2).1) ((nIns N T a1 a2).2) _ _ _ _ ⟨_, _, _, _, _, _, _, rfl, hC2, ⟨E1, hg1, ag1, mn1, sd1, tk1, sg1, sn1, rfl, hM1⟩, (g_ins hGo hx9 hk)⟩ (z_psw hP) (z_dsw hD) hS (lv_sub hl [2, 3, 4, 5, 6] rfl))
  · skip
    obtain ⟨E1, hg1, ag1, mn1, sd1, tk1, sg1, sn1, rfl, hM1⟩ := hm.2 hk
    obtain ⟨A2, mc2, g2, hC2⟩ := h1 hk
    refine lv_istore (lv' := [(6, .int rb), (5, .int (sK2 (sIn a1 0 (nI (N 4))) (!decide (N 4 = 40)))), (4, .int (nI (6 * K))), (0, .ref b), (1, .ref (r 0)), (2, .ref (q 0)), (3, .ref o)]) hx hb dL_law_1479 hl (by decide) rfl (fun ls hl => ?_)
    refine lv_aload_n hx hb dL_law_1481 rfl (lv_at hl 5 rfl) ?_
    refine z_csi (va_Run.run (va_runV (As := []) (rest := []) ⟨hx, hb, hml, hown, hts⟩ (c_X7_thrown l G q (sK2 (sIn a1 0 (nI (N 4))) (!decide (N 4 = 40))) N T E1 hg1 ag1 mn1 sd1 tk1 sg1 sn1) (cwV 0 hts gL_law_X7_thrown rfl rfl rfl (by decide +kernel) ⟨Nat.le_of_ble_eq_true rfl, Nat.le_of_ble_eq_true rfl⟩) (z_pv hK (z_apL hP) (ci := 8) (q0 := 0) rfl rfl (z_apL hP)) rfl rfl hl.1 rfl (lv_room (Nat.le_of_ble_eq_true rfl)) dL_law_1482 hrm)) (fun zt hzt => ?_)
    subst hzt
    refine lv_iload hx hb dL_law_1485 (lv_at hl 1 rfl) ?_
    refine lv_icmp_eq (tgt := 1492) hx hb dL_law_1487 (by decide) (fun _ => ?_) (fun h => absurd rfl h)
    refine lv_iload hx hb dL_law_1492 (lv_at hl 1 rfl) ?_
    refine lv_if_ne (tgt := 1509) hx hb dL_law_1494 (by decide) (fun _ => ?_) (fun h => absurd h hk)
    refine lv_goto (tgt := 1915) hx hb dL_law_1509 (by decide) ?_
    exact z_widen (zUp8 (K := K) (N := N) (N2 := N) rfl).1 (zUp8 (K := K) (N := N) (N2 := N) rfl).2 (kk N T _ _ _ _ ⟨_, _, _, _, _, _, _, rfl, hC2, ⟨E1, hg1, ag1, mn1, sd1, tk1, sg1, sn1, rfl, hM1⟩, hGo.up⟩ (z_psw hP) (z_dsw hD) hS (lv_sub hl [2, 3, 4, 5, 6] rfl))

set_option maxHeartbeats 4000000 in
set_option maxRecDepth 100000 in
theorem law_c22 {p : Program} {l : Launch} {e : Env} {s : State} {m : MethodId} {below : List Frame} {meth : Method} {c : Code} {b L : Nat} {xs : Nat → Int32} (hL : L ≤ 3072) (hst : l.stackTraces = false) (C0 : zLA p s m c b L xs) {G : zG} {d : Nat} (hE : zLe G d s) {r q : Nat → Nat} {o K : Nat} {N : Nat → Nat} {T : Nat → Nat → Int32} {wz : va_W} {H : Heap} {locs : List Loc} (hw : zLw G d r q o K N T wz) (hi : 6 * K + 6 ≤ L) (hP : va_P G.1 vwCl wz H) (hD : va_D (fun a => s.heap.size ≤ a) wz) (hS : va_S (fun a => s.heap.size ≤ a) s.heap H locs) {ls : Array Slot} (hl : lv_has ls 7 [(4, .int (nI (6 * K))), (0, .ref b), (1, .ref (r 0)), (2, .ref (q 0)), (3, .ref o)]) (kk : zKK p l e s m below meth c b G d r q o K) : W p l e room_1 s m #[Value.ref b] below meth c H locs (zLc K N) (zLs K N) (lw_Z below #[Value.ref b] s) (F0 m 1512 ls []) := by
  obtain ⟨hx, hb, hml, hown, hts, hXs, hbl⟩ := C0
  obtain ⟨hK, hZ, hLx⟩ := hE
  have hA : ∀ a : Nat, s.heap.size ≤ a → (fun a : Nat => s.heap.size ≤ a) a := fun _ h => h
  have hbA : ¬ (fun a : Nat => s.heap.size ≤ a) b := Nat.not_le.mpr hbl
  obtain ⟨A, mc, g, w, wm, th, f, rfl, hC, hMO, hGo⟩ := hw
  obtain ⟨E, hg, ag, mn, sd, tk, sg, sn, rfl, hM⟩ := hMO
  have hK5 : K ≤ 511 := by omega
  have hrm := zRk0 hGo hK5
  have hNs : sSm N := sSm.of hGo.1
  refine lv_aload_n hx hb dL_law_1512 rfl (lv_at hl 2 rfl) ?_
  rw [List.append_assoc] at hP hD
  refine z_li (G := G) (w := w) (va_runV (As := []) (rest := []) ⟨hx, hb, hml, hown, hts⟩ (c_X6_clear l G d r A mc g N T w H.size hC hNs) (cwV 0 hts gL_law_X6_clear rfl rfl rfl (by decide +kernel) ⟨Nat.le_of_ble_eq_true rfl, Nat.le_of_ble_eq_true rfl⟩) (z_wv hK (z_apL hP) (ci := 7) (q0 := 0) rfl (hC.1.1 0 (by omega)) (z_apL hP) (z_dL hD) hZ hS hA) rfl rfl hl.1 rfl (lv_room (Nat.le_of_ble_eq_true rfl)) dL_law_1513 hrm) hP hD hS hA (fun ra w2 Hz Lz hq hP hD hS => ?_)
  obtain ⟨hra, A2, mc2, g2, hC2⟩ := hq
  subst hra
  rw [← List.append_assoc] at hP hD
  refine lv_aload_n hx hb dL_law_1516 rfl (lv_at hl 3 rfl) ?_
  refine z_li (G := G) (w := mW G q th N T E hg ag mn sd tk sg sn) (wr := w2 ++ ([(o, zOut G f)] : va_W)) (va_runV (As := []) (rest := [.int (nI (N 4))]) ⟨hx, hb, hml, hown, hts⟩ (c_X7_clear l G q th N T E hg ag mn sd tk sg sn K Hz.size hGo.1 (by omega) hM) (cwV 0 hts gL_law_X7_clear rfl rfl rfl (by decide +kernel) ⟨Nat.le_of_ble_eq_true rfl, Nat.le_of_ble_eq_true rfl⟩) (z_uv hK (z_apL (z_psw hP)) (ci := 8) (q0 := 0) rfl rfl (z_apL (z_psw hP)) (z_dL (z_dsw hD))) rfl rfl hl.1 rfl (lv_room (Nat.le_of_ble_eq_true rfl)) dL_law_1517 hrm) (z_psw hP) (z_dsw hD) hS hA (fun rb wm1 Hz Lz hm hP hD hS => ?_)
  obtain ⟨hrb, E1, hg1, ag1, mn1, sd1, tk1, sg1, sn1, rfl, hM1⟩ := hm
  subst hrb
  refine lv_icmp_eq (tgt := 1915) hx hb dL_law_1520 (by decide) (fun _ => ?_) (fun h => absurd rfl h)
  exact z_widen (zUpo (K := K) (N := N) (N2 := (va_up N 4 0)) rfl).1 (zUpo (K := K) (N := N) (N2 := (va_up N 4 0)) rfl).2 (kk (va_up N 4 0) T _ _ _ _ ⟨_, _, _, _, _, _, _, rfl, hC2, ⟨E1, hg1, ag1, mn1, sd1, tk1, sg1, sn1, rfl, hM1⟩, (g_clear hGo)⟩ (z_psw hP) (z_dsw hD) hS (lv_sub hl [0, 1, 2, 3, 4] rfl))

set_option maxHeartbeats 4000000 in
set_option maxRecDepth 100000 in
theorem law_c23 {p : Program} {l : Launch} {e : Env} {s : State} {m : MethodId} {below : List Frame} {meth : Method} {c : Code} {b L : Nat} {xs : Nat → Int32} (hL : L ≤ 3072) (hst : l.stackTraces = false) (C0 : zLA p s m c b L xs) {G : zG} {d : Nat} (hE : zLe G d s) {r q : Nat → Nat} {o K : Nat} {N : Nat → Nat} {T : Nat → Nat → Int32} {wz : va_W} {H : Heap} {locs : List Loc} (hw : zLw G d r q o K N T wz) (hi : 6 * K + 6 ≤ L) (hP : va_P G.1 vwCl wz H) (hD : va_D (fun a => s.heap.size ≤ a) wz) (hS : va_S (fun a => s.heap.size ≤ a) s.heap H locs) {ls : Array Slot} (hl : lv_has ls 7 [(4, .int (nI (6 * K))), (0, .ref b), (1, .ref (r 0)), (2, .ref (q 0)), (3, .ref o)]) (kk : zKK p l e s m below meth c b G d r q o K) : W p l e room_1 s m #[Value.ref b] below meth c H locs (zLc K N) (zLs K N) (lw_Z below #[Value.ref b] s) (F0 m 1525 ls []) := by
  obtain ⟨hx, hb, hml, hown, hts, hXs, hbl⟩ := C0
  obtain ⟨hK, hZ, hLx⟩ := hE
  have hA : ∀ a : Nat, s.heap.size ≤ a → (fun a : Nat => s.heap.size ≤ a) a := fun _ h => h
  have hbA : ¬ (fun a : Nat => s.heap.size ≤ a) b := Nat.not_le.mpr hbl
  obtain ⟨A, mc, g, w, wm, th, f, rfl, hC, hMO, hGo⟩ := hw
  obtain ⟨E, hg, ag, mn, sd, tk, sg, sn, rfl, hM⟩ := hMO
  have hK5 : K ≤ 511 := by omega
  have hrm := zRk0 hGo hK5
  have hNs : sSm N := sSm.of hGo.1
  refine lv_aload_n hx hb dL_law_1525 rfl (lv_at hl 2 rfl) ?_
  rw [List.append_assoc] at hP hD
  refine z_li (G := G) (w := w) (va_runV (As := []) (rest := []) ⟨hx, hb, hml, hown, hts⟩ (c_X6_isWhole l G d r A mc g N T w H.size hC hNs) (cwV 0 hts gL_law_X6_isWhole rfl rfl rfl (by decide +kernel) ⟨Nat.le_of_ble_eq_true rfl, Nat.le_of_ble_eq_true rfl⟩) (z_wv hK (z_apL hP) (ci := 7) (q0 := 0) rfl (hC.1.1 0 (by omega)) (z_apL hP) (z_dL hD) hZ hS hA) rfl rfl hl.1 rfl (lv_room (Nat.le_of_ble_eq_true rfl)) dL_law_1526 hrm) hP hD hS hA (fun ra w2 Hz Lz hq hP hD hS => ?_)
  obtain ⟨hra, A2, mc2, g2, hC2⟩ := hq
  subst hra
  rw [← List.append_assoc] at hP hD
  refine lv_aload_n hx hb dL_law_1529 rfl (lv_at hl 3 rfl) ?_
  refine z_li (G := G) (w := mW G q th N T E hg ag mn sd tk sg sn) (wr := w2 ++ ([(o, zOut G f)] : va_W)) (va_runV (As := []) (rest := [.int (zb (sGood (T 17) (N 4)))]) ⟨hx, hb, hml, hown, hts⟩ (c_X7_isWhole l G q th N T E hg ag mn sd tk sg sn K Hz.size hGo.1 (by omega) hM) (cwV 0 hts gL_law_X7_isWhole rfl rfl rfl (by decide +kernel) ⟨Nat.le_of_ble_eq_true rfl, Nat.le_of_ble_eq_true rfl⟩) (z_uv hK (z_apL (z_psw hP)) (ci := 8) (q0 := 0) rfl rfl (z_apL (z_psw hP)) (z_dL (z_dsw hD))) rfl rfl hl.1 rfl (lv_room (Nat.le_of_ble_eq_true rfl)) dL_law_1530 hrm) (z_psw hP) (z_dsw hD) hS hA (fun rb wm1 Hz Lz hm hP hD hS => ?_)
  obtain ⟨hrb, E1, hg1, ag1, mn1, sd1, tk1, sg1, sn1, rfl, hM1⟩ := hm
  subst hrb
  refine lv_icmp_eq (tgt := 1915) hx hb dL_law_1533 (by decide) (fun _ => ?_) (fun h => absurd rfl h)
  exact z_widen (zUpo (K := K) (N := N) (N2 := N) rfl).1 (zUpo (K := K) (N := N) (N2 := N) rfl).2 (kk N T _ _ _ _ ⟨_, _, _, _, _, _, _, rfl, hC2, ⟨E1, hg1, ag1, mn1, sd1, tk1, sg1, sn1, rfl, hM1⟩, hGo.up⟩ (z_psw hP) (z_dsw hD) hS (lv_sub hl [0, 1, 2, 3, 4] rfl))
