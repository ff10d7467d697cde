set_option maxHeartbeats 4000000 in
set_option maxRecDepth 100000 in
theorem law_c0 {p : Program} {l : Launch} {e : Env} {s : State} {m : MethodId} {below : List Frame} {meth : Method} {c : Code} {b L : Nat} {xs : Nat → Int32} (hL : L ≤ 3072) (hst : l.stackTraces = false) (C0 : zLA p s m c b L xs) {G : zG} {d : Nat} (hE : zLe G d s) {r q : Nat → Nat} {o K : Nat} {N : Nat → Nat} {T : Nat → Nat → Int32} {wz : va_W} {H : Heap} {locs : List Loc} (hw : zLw G d r q o K N T wz) (hi : 6 * K + 6 ≤ L) (hP : va_P G.1 vwCl wz H) (hD : va_D (fun a => s.heap.size ≤ a) wz) (hS : va_S (fun a => s.heap.size ≤ a) s.heap H locs) {ls : Array Slot} (hl : lv_has ls 7 [(4, .int (nI (6 * K))), (0, .ref b), (1, .ref (r 0)), (2, .ref (q 0)), (3, .ref o)]) (kk : zKK p l e s m below meth c b G d r q o K) : W p l e room_1 s m #[Value.ref b] below meth c H locs (zLc K N) (zLs K N) (lw_Z below #[Value.ref b] s) (F0 m 180 ls []) := by
  obtain ⟨hx, hb, hml, hown, hts, hXs, hbl⟩ := C0
  obtain ⟨hK, hZ, hLx⟩ := hE
  have hA : ∀ a : Nat, s.heap.size ≤ a → (fun a : Nat => s.heap.size ≤ a) a := fun _ h => h
  have hbA : ¬ (fun a : Nat => s.heap.size ≤ a) b := Nat.not_le.mpr hbl
  obtain ⟨A, mc, g, w, wm, th, f, rfl, hC, hMO, hGo⟩ := hw
  obtain ⟨E, hg, ag, mn, sd, tk, sg, sn, rfl, hM⟩ := hMO
  have hK5 : K ≤ 511 := by omega
  obtain ⟨a1, hz1⟩ : ∃ y, y = xs (6 * K + 1) := ⟨_, rfl⟩
  obtain ⟨a2, hz2⟩ : ∃ y, y = xs (6 * K + 2) := ⟨_, rfl⟩
  obtain ⟨a3, hz3⟩ : ∃ y, y = xs (6 * K + 3) := ⟨_, rfl⟩
  have hrm := zRk8 hGo hK5
  refine lv_aload_n hx hb dL_law_180 rfl (lv_at hl 2 rfl) ?_
  refine z_arg hx hb hXs hbl hbA hS (k := 1) (lv_at hl 1 rfl) (lv_at hl 0 rfl) (by decide) (by omega) hL hz1 dL_law_181 dL_law_182 dL_law_184 dL_law_185 dL_law_186 ?_
  refine z_arg hx hb hXs hbl hbA hS (k := 2) (lv_at hl 1 rfl) (lv_at hl 0 rfl) (by decide) (by omega) hL hz2 dL_law_187 dL_law_188 dL_law_190 dL_law_191 dL_law_192 ?_
  refine z_arg hx hb hXs hbl hbA hS (k := 3) (lv_at hl 1 rfl) (lv_at hl 0 rfl) (by decide) (by omega) hL hz3 dL_law_193 dL_law_194 dL_law_196 dL_law_197 dL_law_198 ?_
  refine lv_aload_n hx hb dL_law_199 rfl (lv_at hl 4 rfl) ?_
  refine z_xi (G := G) (w := (w ++ ([(o, zOut G f)] : va_W))) (vx_runSX (hh := [(0, 12, 15, 13), (0, 12, 19, 15), (0, 12, 23, 17)]) (As := [.ref (r 0), .int a1, .int a2, .int a3, .ref o]) (rest := []) ⟨hx, hb, hml, hown, hts⟩ (h_pipe l hst G d r A mc g N T w K a1 a2 a3 o f H.size hC hGo.1 hK5 ) (vx_cwSW 5 hts gL_law_L_pipe rfl rfl rfl (by decide +kernel) ⟨Nat.le_of_ble_eq_true rfl, Nat.le_of_ble_eq_true rfl⟩) (z_hs hK (z_apL hP) (z_dL hD) hZ hLx hS hA) rfl rfl hl.1 rfl (lv_room (Nat.le_of_ble_eq_true rfl)) dL_law_200 hrm) hP hD hS hA (fun i E ce q9 Hz Lz hk hE hP hS hce hcv hcl => absurd hE (by simp)) (fun k5 w1 Hz Lz hq hP hD hS => ?_)
  obtain ⟨hk5, w2, f2, rfl, h0, h1⟩ := hq
  subst hk5
  refine lv_istore (lv' := [(5, .int (sK3 (sIx a1 8) (((sEnd a2) && (sEnd a3)) && !decide (a2 = a3)) (decide (T 3 a1.toNatClampNeg = 0)))), (4, .int (nI (6 * K))), (0, .ref b), (1, .ref (r 0)), (2, .ref (q 0)), (3, .ref o)]) hx hb dL_law_203 hl (by decide) rfl (fun ls hl => ?_)
  refine lv_aload_n hx hb dL_law_205 rfl (lv_at hl 4 rfl) ?_
  refine z_arg hx hb hXs hbl hbA hS (k := 1) (lv_at hl 2 rfl) (lv_at hl 1 rfl) (by decide) (by omega) hL hz1 dL_law_206 dL_law_207 dL_law_209 dL_law_210 dL_law_211 ?_
  refine z_arg hx hb hXs hbl hbA hS (k := 2) (lv_at hl 2 rfl) (lv_at hl 1 rfl) (by decide) (by omega) hL hz2 dL_law_212 dL_law_213 dL_law_215 dL_law_216 dL_law_217 ?_
  refine z_arg hx hb hXs hbl hbA hS (k := 3) (lv_at hl 2 rfl) (lv_at hl 1 rfl) (by decide) (by omega) hL hz3 dL_law_218 dL_law_219 dL_law_221 dL_law_222 dL_law_223 ?_
  refine z_li (G := G) (w := mW G q th N T E hg ag mn sd tk sg sn) (wr := w2 ++ ([(o, zOut G f2)] : va_W)) (va_runV (As := [.int a1, .int a2, .int a3]) (rest := []) ⟨hx, hb, hml, hown, hts⟩ (c_X7_pipe l G q th N T E hg ag mn sd tk sg sn a1 a2 a3 K Hz.size hGo.1 (by omega) hM ) (cwV 3 hts gL_law_X7_pipe rfl rfl rfl (by decide +kernel) ⟨Nat.le_of_ble_eq_true rfl, Nat.le_of_ble_eq_true rfl⟩) (z_uv hK (z_apL (z_psw hP)) (ci := 8) (q0 := 0) rfl rfl (z_apL (z_psw hP)) (z_dL (z_dsw hD))) rfl rfl hl.1 rfl (lv_room (Nat.le_of_ble_eq_true rfl)) dL_law_224 hrm) (z_psw hP) (z_dsw hD) hS hA (fun rb wm1 Hz Lz hm hP hD hS => ?_)
  by_cases hk : sK3 (sIx a1 8) (((sEnd a2) && (sEnd a3)) && !decide (a2 = a3)) (decide (T 3 a1.toNatClampNeg = 0)) = 0
  · skip
    obtain ⟨hrb, E1, hg1, ag1, mn1, sd1, tk1, sg1, sn1, rfl, hM1⟩ := hm.1 hk
    obtain ⟨hf2, A2, mc2, g2, hC2⟩ := h0 hk
    subst hrb
    refine lv_istore (lv' := [(6, .int (nI (sOn N T a1))), (5, .int (sK3 (sIx a1 8) (((sEnd a2) && (sEnd a3)) && !decide (a2 = a3)) (decide (T 3 a1.toNatClampNeg = 0)))), (4, .int (nI (6 * K))), (0, .ref b), (1, .ref (r 0)), (2, .ref (q 0)), (3, .ref o)]) hx hb dL_law_227 hl (by decide) rfl (fun ls hl => ?_)
    refine lv_aload_n hx hb dL_law_229 rfl (lv_at hl 5 rfl) ?_
    refine z_csi (va_Run.run (va_runV (As := []) (rest := []) ⟨hx, hb, hml, hown, hts⟩ (c_X7_thrown l G q (sK3 (sIx a1 8) (((sEnd a2) && (sEnd a3)) && !decide (a2 = a3)) (decide (T 3 a1.toNatClampNeg = 0))) N ((nPipe N T a1 a2 a3).2) E1 hg1 ag1 mn1 sd1 tk1 sg1 sn1) (cwV 0 hts gL_law_X7_thrown rfl rfl rfl (by decide +kernel) ⟨Nat.le_of_ble_eq_true rfl, Nat.le_of_ble_eq_true rfl⟩) (z_pv hK (z_apL hP) (ci := 8) (q0 := 0) rfl rfl (z_apL hP)) rfl rfl hl.1 rfl (lv_room (Nat.le_of_ble_eq_true rfl)) dL_law_230 hrm)) (fun zt hzt => ?_)
    subst hzt
    refine lv_iload hx hb dL_law_233 (lv_at hl 1 rfl) ?_
    refine lv_icmp_eq (tgt := 240) hx hb dL_law_235 (by decide) (fun _ => ?_) (fun h => absurd rfl h)
    refine lv_iload hx hb dL_law_240 (lv_at hl 1 rfl) ?_
    refine lv_if_ne (tgt := 257) hx hb dL_law_242 (by decide) (fun h => absurd hk h) (fun _ => ?_)
    refine lv_aload_n hx hb dL_law_245 rfl (lv_at hl 6 rfl) ?_
    refine lv_iconst (v := 0) hx hb dL_law_246 (by decide) ?_
    refine va_lald hx hb hK (z_apR hP) w2.length 1 z_atx rfl (vp_in_nI (n := 0) (by decide) (by decide)) dL_law_247 ?_
    rw [show f2 (0 : Int32).toNatClampNeg = (nI (sOn N T a1) : Int32).toInt64 from hf2]
    refine lv_iload hx hb dL_law_248 (lv_at hl 0 rfl) ?_
    refine lv_i2l (v := (nI (sOn N T a1) : Int32).toInt64) hx hb dL_law_250 rfl ?_
    refine W.lcmp hx hb dL_law_251 ?_
    rw [zcmp rfl]
    refine lv_if_eq (tgt := 257) hx hb dL_law_252 (by decide) (fun _ => ?_) (fun h => absurd rfl h)
    refine lv_goto (tgt := 1915) hx hb dL_law_257 (by decide) ?_
    exact z_widen (zUp8 (K := K) (N := N) (N2 := N) rfl).1 (zUp8 (K := K) (N := N) (N2 := N) rfl).2 (kk N ((nPipe N T a1 a2 a3).2) _ _ _ _ ⟨_, _, _, _, _, _, _, rfl, hC2, ⟨E1, hg1, ag1, mn1, sd1, tk1, sg1, sn1, rfl, hM1⟩, (g_pipe hGo hk)⟩ (z_psw hP) (z_dsw hD) hS (lv_sub hl [2, 3, 4, 5, 6] rfl))
  · skip
    obtain ⟨E1, hg1, ag1, mn1, sd1, tk1, sg1, sn1, rfl, hM1⟩ := hm.2 hk
    obtain ⟨A2, mc2, g2, hC2⟩ := h1 hk
    refine lv_istore (lv' := [(6, .int rb), (5, .int (sK3 (sIx a1 8) (((sEnd a2) && (sEnd a3)) && !decide (a2 = a3)) (decide (T 3 a1.toNatClampNeg = 0)))), (4, .int (nI (6 * K))), (0, .ref b), (1, .ref (r 0)), (2, .ref (q 0)), (3, .ref o)]) hx hb dL_law_227 hl (by decide) rfl (fun ls hl => ?_)
    refine lv_aload_n hx hb dL_law_229 rfl (lv_at hl 5 rfl) ?_
    refine z_csi (va_Run.run (va_runV (As := []) (rest := []) ⟨hx, hb, hml, hown, hts⟩ (c_X7_thrown l G q (sK3 (sIx a1 8) (((sEnd a2) && (sEnd a3)) && !decide (a2 = a3)) (decide (T 3 a1.toNatClampNeg = 0))) N T E1 hg1 ag1 mn1 sd1 tk1 sg1 sn1) (cwV 0 hts gL_law_X7_thrown rfl rfl rfl (by decide +kernel) ⟨Nat.le_of_ble_eq_true rfl, Nat.le_of_ble_eq_true rfl⟩) (z_pv hK (z_apL hP) (ci := 8) (q0 := 0) rfl rfl (z_apL hP)) rfl rfl hl.1 rfl (lv_room (Nat.le_of_ble_eq_true rfl)) dL_law_230 hrm)) (fun zt hzt => ?_)
    subst hzt
    refine lv_iload hx hb dL_law_233 (lv_at hl 1 rfl) ?_
    refine lv_icmp_eq (tgt := 240) hx hb dL_law_235 (by decide) (fun _ => ?_) (fun h => absurd rfl h)
    refine lv_iload hx hb dL_law_240 (lv_at hl 1 rfl) ?_
    refine lv_if_ne (tgt := 257) hx hb dL_law_242 (by decide) (fun _ => ?_) (fun h => absurd h hk)
    refine lv_goto (tgt := 1915) hx hb dL_law_257 (by decide) ?_
    exact z_widen (zUp8 (K := K) (N := N) (N2 := N) rfl).1 (zUp8 (K := K) (N := N) (N2 := N) rfl).2 (kk N T _ _ _ _ ⟨_, _, _, _, _, _, _, rfl, hC2, ⟨E1, hg1, ag1, mn1, sd1, tk1, sg1, sn1, rfl, hM1⟩, hGo.up⟩ (z_psw hP) (z_dsw hD) hS (lv_sub hl [2, 3, 4, 5, 6] rfl))

set_option maxHeartbeats 4000000 in
set_option maxRecDepth 100000 in
theorem law_c1 {p : Program} {l : Launch} {e : Env} {s : State} {m : MethodId} {below : List Frame} {meth : Method} {c : Code} {b L : Nat} {xs : Nat → Int32} (hL : L ≤ 3072) (hst : l.stackTraces = false) (C0 : zLA p s m c b L xs) {G : zG} {d : Nat} (hE : zLe G d s) {r q : Nat → Nat} {o K : Nat} {N : Nat → Nat} {T : Nat → Nat → Int32} {wz : va_W} {H : Heap} {locs : List Loc} (hw : zLw G d r q o K N T wz) (hi : 6 * K + 6 ≤ L) (hP : va_P G.1 vwCl wz H) (hD : va_D (fun a => s.heap.size ≤ a) wz) (hS : va_S (fun a => s.heap.size ≤ a) s.heap H locs) {ls : Array Slot} (hl : lv_has ls 7 [(4, .int (nI (6 * K))), (0, .ref b), (1, .ref (r 0)), (2, .ref (q 0)), (3, .ref o)]) (kk : zKK p l e s m below meth c b G d r q o K) : W p l e room_1 s m #[Value.ref b] below meth c H locs (zLc K N) (zLs K N) (lw_Z below #[Value.ref b] s) (F0 m 260 ls []) := by
  obtain ⟨hx, hb, hml, hown, hts, hXs, hbl⟩ := C0
  obtain ⟨hK, hZ, hLx⟩ := hE
  have hA : ∀ a : Nat, s.heap.size ≤ a → (fun a : Nat => s.heap.size ≤ a) a := fun _ h => h
  have hbA : ¬ (fun a : Nat => s.heap.size ≤ a) b := Nat.not_le.mpr hbl
  obtain ⟨A, mc, g, w, wm, th, f, rfl, hC, hMO, hGo⟩ := hw
  obtain ⟨E, hg, ag, mn, sd, tk, sg, sn, rfl, hM⟩ := hMO
  have hK5 : K ≤ 511 := by omega
  obtain ⟨a1, hz1⟩ : ∃ y, y = xs (6 * K + 1) := ⟨_, rfl⟩
  obtain ⟨a2, hz2⟩ : ∃ y, y = xs (6 * K + 2) := ⟨_, rfl⟩
  obtain ⟨t3, hz3⟩ : ∃ y, y = xs (6 * K + 3) := ⟨_, rfl⟩
  obtain ⟨b3, hb3⟩ : ∃ y, y = (!decide (t3 = 0)) := ⟨_, rfl⟩
  have hrm := zRk hGo hK5 (N2 := ((sTurn N T a1 a2 b3).1)) (T2 := ((sTurn N T a1 a2 b3).2)) (k := sK2 ((sIx a1 9) && (sIx a2 8)) (decide (sBars N T a1 a2 = 0))) (fun hk => (g_turn hGo hk))
  refine lv_aload_n hx hb dL_law_260 rfl (lv_at hl 2 rfl) ?_
  refine z_arg hx hb hXs hbl hbA hS (k := 1) (lv_at hl 1 rfl) (lv_at hl 0 rfl) (by decide) (by omega) hL hz1 dL_law_261 dL_law_262 dL_law_264 dL_law_265 dL_law_266 ?_
  refine z_arg hx hb hXs hbl hbA hS (k := 2) (lv_at hl 1 rfl) (lv_at hl 0 rfl) (by decide) (by omega) hL hz2 dL_law_267 dL_law_268 dL_law_270 dL_law_271 dL_law_272 ?_
  refine z_arg hx hb hXs hbl hbA hS (k := 3) (lv_at hl 1 rfl) (lv_at hl 0 rfl) (by decide) (by omega) hL hz3 dL_law_273 dL_law_274 dL_law_276 dL_law_277 dL_law_278 ?_
  refine z_bo hx hb dL_law_279 dL_law_282 dL_law_283 dL_law_286 ?_
  rw [← hb3]
  refine lv_aload_n hx hb dL_law_287 rfl (lv_at hl 4 rfl) ?_
  refine z_xi (G := G) (w := (w ++ ([(o, zOut G f)] : va_W))) (vx_runSX (hh := [(0, 19, 22, 13), (0, 19, 26, 17)]) (As := [.ref (r 0), .int a1, .int a2, .int (zb b3), .ref o]) (rest := []) ⟨hx, hb, hml, hown, hts⟩ (h_turn l hst G d r A mc g N T w K a1 a2 b3 o f H.size hC hGo.1 hK5 ) (vx_cwSW 5 hts gL_law_L_turn rfl rfl rfl (by decide +kernel) ⟨Nat.le_of_ble_eq_true rfl, Nat.le_of_ble_eq_true rfl⟩) (z_hs hK (z_apL hP) (z_dL hD) hZ hLx hS hA) rfl rfl hl.1 rfl (lv_room (Nat.le_of_ble_eq_true rfl)) dL_law_288 hrm) hP hD hS hA (fun i E ce q9 Hz Lz hk hE hP hS hce hcv hcl => absurd hE (by simp)) (fun k5 w1 Hz Lz hq hP hD hS => ?_)
  obtain ⟨hk5, w2, f2, rfl, h0, h1⟩ := hq
  subst hk5
  refine lv_istore (lv' := [(5, .int (sK2 ((sIx a1 9) && (sIx a2 8)) (decide (sBars N T a1 a2 = 0)))), (4, .int (nI (6 * K))), (0, .ref b), (1, .ref (r 0)), (2, .ref (q 0)), (3, .ref o)]) hx hb dL_law_291 hl (by decide) rfl (fun ls hl => ?_)
  refine lv_aload_n hx hb dL_law_293 rfl (lv_at hl 4 rfl) ?_
  refine z_arg hx hb hXs hbl hbA hS (k := 1) (lv_at hl 2 rfl) (lv_at hl 1 rfl) (by decide) (by omega) hL hz1 dL_law_294 dL_law_295 dL_law_297 dL_law_298 dL_law_299 ?_
  refine z_arg hx hb hXs hbl hbA hS (k := 2) (lv_at hl 2 rfl) (lv_at hl 1 rfl) (by decide) (by omega) hL hz2 dL_law_300 dL_law_301 dL_law_303 dL_law_304 dL_law_305 ?_
  refine z_arg hx hb hXs hbl hbA hS (k := 3) (lv_at hl 2 rfl) (lv_at hl 1 rfl) (by decide) (by omega) hL hz3 dL_law_306 dL_law_307 dL_law_309 dL_law_310 dL_law_311 ?_
  refine z_bo hx hb dL_law_312 dL_law_315 dL_law_316 dL_law_319 ?_
  rw [← hb3]
  refine z_li (G := G) (w := mW G q th N T E hg ag mn sd tk sg sn) (wr := w2 ++ ([(o, zOut G f2)] : va_W)) (va_runV (As := [.int a1, .int a2, .int (zb b3)]) (rest := []) ⟨hx, hb, hml, hown, hts⟩ (c_X7_turn l G q th N T E hg ag mn sd tk sg sn a1 a2 b3 K Hz.size hGo.1 (by omega) hM ) (cwV 3 hts gL_law_X7_turn rfl rfl rfl (by decide +kernel) ⟨Nat.le_of_ble_eq_true rfl, Nat.le_of_ble_eq_true rfl⟩) (z_uv hK (z_apL (z_psw hP)) (ci := 8) (q0 := 0) rfl rfl (z_apL (z_psw hP)) (z_dL (z_dsw hD))) rfl rfl hl.1 rfl (lv_room (Nat.le_of_ble_eq_true rfl)) dL_law_320 hrm) (z_psw hP) (z_dsw hD) hS hA (fun rb wm1 Hz Lz hm hP hD hS => ?_)
  by_cases hk : sK2 ((sIx a1 9) && (sIx a2 8)) (decide (sBars N T a1 a2 = 0)) = 0
  · skip
    obtain ⟨hrb, E1, hg1, ag1, mn1, sd1, tk1, sg1, sn1, rfl, hM1⟩ := hm.1 hk
    obtain ⟨hf2, A2, mc2, g2, hC2⟩ := h0 hk
    subst hrb
    refine lv_istore (lv' := [(6, .int (zb (!decide (T 3 a2.toNatClampNeg = zb b3)))), (5, .int (sK2 ((sIx a1 9) && (sIx a2 8)) (decide (sBars N T a1 a2 = 0)))), (4, .int (nI (6 * K))), (0, .ref b), (1, .ref (r 0)), (2, .ref (q 0)), (3, .ref o)]) hx hb dL_law_323 hl (by decide) rfl (fun ls hl => ?_)
    refine lv_aload_n hx hb dL_law_325 rfl (lv_at hl 5 rfl) ?_
    refine z_csi (va_Run.run (va_runV (As := []) (rest := []) ⟨hx, hb, hml, hown, hts⟩ (c_X7_thrown l G q (sK2 ((sIx a1 9) && (sIx a2 8)) (decide (sBars N T a1 a2 = 0))) ((sTurn N T a1 a2 b3).1) ((sTurn N T a1 a2 b3).2) E1 hg1 ag1 mn1 sd1 tk1 sg1 sn1) (cwV 0 hts gL_law_X7_thrown rfl rfl rfl (by decide +kernel) ⟨Nat.le_of_ble_eq_true rfl, Nat.le_of_ble_eq_true rfl⟩) (z_pv hK (z_apL hP) (ci := 8) (q0 := 0) rfl rfl (z_apL hP)) rfl rfl hl.1 rfl (lv_room (Nat.le_of_ble_eq_true rfl)) dL_law_326 hrm)) (fun zt hzt => ?_)
    subst hzt
    refine lv_iload hx hb dL_law_329 (lv_at hl 1 rfl) ?_
    refine lv_icmp_eq (tgt := 336) hx hb dL_law_331 (by decide) (fun _ => ?_) (fun h => absurd rfl h)
    refine lv_iload hx hb dL_law_336 (lv_at hl 1 rfl) ?_
    refine lv_if_ne (tgt := 360) hx hb dL_law_338 (by decide) (fun h => absurd hk h) (fun _ => ?_)
    refine lv_aload_n hx hb dL_law_341 rfl (lv_at hl 6 rfl) ?_
    refine lv_iconst (v := 0) hx hb dL_law_342 (by decide) ?_
    refine va_lald hx hb hK (z_apR hP) w2.length 1 z_atx rfl (vp_in_nI (n := 0) (by decide) (by decide)) dL_law_343 ?_
    rw [show f2 (0 : Int32).toNatClampNeg = (zL1 (zb (!decide (T 3 a2.toNatClampNeg = zb b3)))) from hf2]
    refine lv_iload hx hb dL_law_344 (lv_at hl 0 rfl) ?_
    refine z_bl hx hb dL_law_346 dL_law_349 dL_law_350 dL_law_353 ?_
    refine W.lcmp hx hb dL_law_354 ?_
    rw [zcmp rfl]
    refine lv_if_eq (tgt := 360) hx hb dL_law_355 (by decide) (fun _ => ?_) (fun h => absurd rfl h)
    refine lv_goto (tgt := 1915) hx hb dL_law_360 (by decide) ?_
    exact z_widen (zUp0 (K := K) (N := N) (N2 := ((sTurn N T a1 a2 b3).1)) (k := sK2 ((sIx a1 9) && (sIx a2 8)) (decide (sBars N T a1 a2 = 0))) hk m_turn).1 (zUp0 (K := K) (N := N) (N2 := ((sTurn N T a1 a2 b3).1)) (k := sK2 ((sIx a1 9) && (sIx a2 8)) (decide (sBars N T a1 a2 = 0))) hk m_turn).2 (kk ((sTurn N T a1 a2 b3).1) ((sTurn N T a1 a2 b3).2) _ _ _ _ ⟨_, _, _, _, _, _, _, rfl, hC2, ⟨E1, hg1, ag1, mn1, sd1, tk1, sg1, sn1, rfl, hM1⟩, (g_turn hGo hk)⟩ (z_psw hP) (z_dsw hD) hS (lv_sub hl [2, 3, 4, 5, 6] rfl))
  · skip
    obtain ⟨E1, hg1, ag1, mn1, sd1, tk1, sg1, sn1, rfl, hM1⟩ := hm.2 hk
    obtain ⟨A2, mc2, g2, hC2⟩ := h1 hk
    refine lv_istore (lv' := [(6, .int rb), (5, .int (sK2 ((sIx a1 9) && (sIx a2 8)) (decide (sBars N T a1 a2 = 0)))), (4, .int (nI (6 * K))), (0, .ref b), (1, .ref (r 0)), (2, .ref (q 0)), (3, .ref o)]) hx hb dL_law_323 hl (by decide) rfl (fun ls hl => ?_)
    refine lv_aload_n hx hb dL_law_325 rfl (lv_at hl 5 rfl) ?_
    refine z_csi (va_Run.run (va_runV (As := []) (rest := []) ⟨hx, hb, hml, hown, hts⟩ (c_X7_thrown l G q (sK2 ((sIx a1 9) && (sIx a2 8)) (decide (sBars N T a1 a2 = 0))) N T E1 hg1 ag1 mn1 sd1 tk1 sg1 sn1) (cwV 0 hts gL_law_X7_thrown rfl rfl rfl (by decide +kernel) ⟨Nat.le_of_ble_eq_true rfl, Nat.le_of_ble_eq_true rfl⟩) (z_pv hK (z_apL hP) (ci := 8) (q0 := 0) rfl rfl (z_apL hP)) rfl rfl hl.1 rfl (lv_room (Nat.le_of_ble_eq_true rfl)) dL_law_326 hrm)) (fun zt hzt => ?_)
    subst hzt
    refine lv_iload hx hb dL_law_329 (lv_at hl 1 rfl) ?_
    refine lv_icmp_eq (tgt := 336) hx hb dL_law_331 (by decide) (fun _ => ?_) (fun h => absurd rfl h)
    refine lv_iload hx hb dL_law_336 (lv_at hl 1 rfl) ?_
    refine lv_if_ne (tgt := 360) hx hb dL_law_338 (by decide) (fun _ => ?_) (fun h => absurd h hk)
    refine lv_goto (tgt := 1915) hx hb dL_law_360 (by decide) ?_
    exact z_widen (zUpn (K := K) (N := N) (a := N 1) (b := ((sTurn N T a1 a2 b3).1) 1) (k := sK2 ((sIx a1 9) && (sIx a2 8)) (decide (sBars N T a1 a2 = 0))) hk).1 (zUpn (K := K) (N := N) (a := N 1) (b := ((sTurn N T a1 a2 b3).1) 1) (k := sK2 ((sIx a1 9) && (sIx a2 8)) (decide (sBars N T a1 a2 = 0))) hk).2 (kk N T _ _ _ _ ⟨_, _, _, _, _, _, _, rfl, hC2, ⟨E1, hg1, ag1, mn1, sd1, tk1, sg1, sn1, rfl, hM1⟩, hGo.up⟩ (z_psw hP) (z_dsw hD) hS (lv_sub hl [2, 3, 4, 5, 6] rfl))

set_option maxHeartbeats 4000000 in
set_option maxRecDepth 100000 in
theorem law_c2 {p : Program} {l : Launch} {e : Env} {s : State} {m : MethodId} {below : List Frame} {meth : Method} {c : Code} {b L : Nat} {xs : Nat → Int32} (hL : L ≤ 3072) (hst : l.stackTraces = false) (C0 : zLA p s m c b L xs) {G : zG} {d : Nat} (hE : zLe G d s) {r q : Nat → Nat} {o K : Nat} {N : Nat → Nat} {T : Nat → Nat → Int32} {wz : va_W} {H : Heap} {locs : List Loc} (hw : zLw G d r q o K N T wz) (hi : 6 * K + 6 ≤ L) (hP : va_P G.1 vwCl wz H) (hD : va_D (fun a => s.heap.size ≤ a) wz) (hS : va_S (fun a => s.heap.size ≤ a) s.heap H locs) {ls : Array Slot} (hl : lv_has ls 7 [(4, .int (nI (6 * K))), (0, .ref b), (1, .ref (r 0)), (2, .ref (q 0)), (3, .ref o)]) (kk : zKK p l e s m below meth c b G d r q o K) : W p l e room_1 s m #[Value.ref b] below meth c H locs (zLc K N) (zLs K N) (lw_Z below #[Value.ref b] s) (F0 m 363 ls []) := by
  obtain ⟨hx, hb, hml, hown, hts, hXs, hbl⟩ := C0
  obtain ⟨hK, hZ, hLx⟩ := hE
  have hA : ∀ a : Nat, s.heap.size ≤ a → (fun a : Nat => s.heap.size ≤ a) a := fun _ h => h
  have hbA : ¬ (fun a : Nat => s.heap.size ≤ a) b := Nat.not_le.mpr hbl
  obtain ⟨A, mc, g, w, wm, th, f, rfl, hC, hMO, hGo⟩ := hw
  obtain ⟨E, hg, ag, mn, sd, tk, sg, sn, rfl, hM⟩ := hMO
  have hK5 : K ≤ 511 := by omega
  obtain ⟨a1, hz1⟩ : ∃ y, y = xs (6 * K + 1) := ⟨_, rfl⟩
  obtain ⟨a2, hz2⟩ : ∃ y, y = xs (6 * K + 2) := ⟨_, rfl⟩
  have hrm := zRk8 hGo hK5
  refine lv_aload_n hx hb dL_law_363 rfl (lv_at hl 2 rfl) ?_
  refine z_arg hx hb hXs hbl hbA hS (k := 1) (lv_at hl 1 rfl) (lv_at hl 0 rfl) (by decide) (by omega) hL hz1 dL_law_364 dL_law_365 dL_law_367 dL_law_368 dL_law_369 ?_
  refine z_arg hx hb hXs hbl hbA hS (k := 2) (lv_at hl 1 rfl) (lv_at hl 0 rfl) (by decide) (by omega) hL hz2 dL_law_370 dL_law_371 dL_law_373 dL_law_374 dL_law_375 ?_
  refine lv_aload_n hx hb dL_law_376 rfl (lv_at hl 4 rfl) ?_
  refine z_xi (G := G) (w := (w ++ ([(o, zOut G f)] : va_W))) (vx_runSX (hh := [(0, 10, 13, 13)]) (As := [.ref (r 0), .int a1, .int a2, .ref o]) (rest := []) ⟨hx, hb, hml, hown, hts⟩ (h_obstacle l hst G d r A mc g N T w K a1 a2 o f H.size hC hGo.1 hK5 ) (vx_cwSW 4 hts gL_law_L_obstacle rfl rfl rfl (by decide +kernel) ⟨Nat.le_of_ble_eq_true rfl, Nat.le_of_ble_eq_true rfl⟩) (z_hs hK (z_apL hP) (z_dL hD) hZ hLx hS hA) rfl rfl hl.1 rfl (lv_room (Nat.le_of_ble_eq_true rfl)) dL_law_377 hrm) hP hD hS hA (fun i E ce q9 Hz Lz hk hE hP hS hce hcv hcl => absurd hE (by simp)) (fun k5 w1 Hz Lz hq hP hD hS => ?_)
  obtain ⟨hk5, w2, f2, rfl, h0, h1⟩ := hq
  subst hk5
  refine lv_istore (lv' := [(5, .int (sK1 ((sIx a1 9) && (sIx a2 8)))), (4, .int (nI (6 * K))), (0, .ref b), (1, .ref (r 0)), (2, .ref (q 0)), (3, .ref o)]) hx hb dL_law_380 hl (by decide) rfl (fun ls hl => ?_)
  refine lv_aload_n hx hb dL_law_382 rfl (lv_at hl 4 rfl) ?_
  refine z_arg hx hb hXs hbl hbA hS (k := 1) (lv_at hl 2 rfl) (lv_at hl 1 rfl) (by decide) (by omega) hL hz1 dL_law_383 dL_law_384 dL_law_386 dL_law_387 dL_law_388 ?_
  refine z_arg hx hb hXs hbl hbA hS (k := 2) (lv_at hl 2 rfl) (lv_at hl 1 rfl) (by decide) (by omega) hL hz2 dL_law_389 dL_law_390 dL_law_392 dL_law_393 dL_law_394 ?_
  refine z_li (G := G) (w := mW G q th N T E hg ag mn sd tk sg sn) (wr := w2 ++ ([(o, zOut G f2)] : va_W)) (va_runV (As := [.int a1, .int a2]) (rest := []) ⟨hx, hb, hml, hown, hts⟩ (c_X7_obstacle l G q th N T E hg ag mn sd tk sg sn a1 a2 K Hz.size hGo.1 (by omega) hM ) (cwV 2 hts gL_law_X7_obstacle rfl rfl rfl (by decide +kernel) ⟨Nat.le_of_ble_eq_true rfl, Nat.le_of_ble_eq_true rfl⟩) (z_uv hK (z_apL (z_psw hP)) (ci := 8) (q0 := 0) rfl rfl (z_apL (z_psw hP)) (z_dL (z_dsw hD))) rfl rfl hl.1 rfl (lv_room (Nat.le_of_ble_eq_true rfl)) dL_law_395 hrm) (z_psw hP) (z_dsw hD) hS hA (fun rb wm1 Hz Lz hm hP hD hS => ?_)
  by_cases hk : sK1 ((sIx a1 9) && (sIx a2 8)) = 0
  · skip
    obtain ⟨hrb, E1, hg1, ag1, mn1, sd1, tk1, sg1, sn1, rfl, hM1⟩ := hm.1 hk
    obtain ⟨hf2, A2, mc2, g2, hC2⟩ := h0 hk
    subst hrb
    refine lv_istore (lv' := [(6, .int (sBars N T a1 a2)), (5, .int (sK1 ((sIx a1 9) && (sIx a2 8)))), (4, .int (nI (6 * K))), (0, .ref b), (1, .ref (r 0)), (2, .ref (q 0)), (3, .ref o)]) hx hb dL_law_398 hl (by decide) rfl (fun ls hl => ?_)
    refine lv_aload_n hx hb dL_law_400 rfl (lv_at hl 5 rfl) ?_
    refine z_csi (va_Run.run (va_runV (As := []) (rest := []) ⟨hx, hb, hml, hown, hts⟩ (c_X7_thrown l G q (sK1 ((sIx a1 9) && (sIx a2 8))) N T E1 hg1 ag1 mn1 sd1 tk1 sg1 sn1) (cwV 0 hts gL_law_X7_thrown rfl rfl rfl (by decide +kernel) ⟨Nat.le_of_ble_eq_true rfl, Nat.le_of_ble_eq_true rfl⟩) (z_pv hK (z_apL hP) (ci := 8) (q0 := 0) rfl rfl (z_apL hP)) rfl rfl hl.1 rfl (lv_room (Nat.le_of_ble_eq_true rfl)) dL_law_401 hrm)) (fun zt hzt => ?_)
    subst hzt
    refine lv_iload hx hb dL_law_404 (lv_at hl 1 rfl) ?_
    refine lv_icmp_eq (tgt := 411) hx hb dL_law_406 (by decide) (fun _ => ?_) (fun h => absurd rfl h)
    refine lv_iload hx hb dL_law_411 (lv_at hl 1 rfl) ?_
    refine lv_if_ne (tgt := 428) hx hb dL_law_413 (by decide) (fun h => absurd hk h) (fun _ => ?_)
    refine lv_aload_n hx hb dL_law_416 rfl (lv_at hl 6 rfl) ?_
    refine lv_iconst (v := 0) hx hb dL_law_417 (by decide) ?_
    refine va_lald hx hb hK (z_apR hP) w2.length 1 z_atx rfl (vp_in_nI (n := 0) (by decide) (by decide)) dL_law_418 ?_
    rw [show f2 (0 : Int32).toNatClampNeg = (sBars N T a1 a2 : Int32).toInt64 from hf2]
    refine lv_iload hx hb dL_law_419 (lv_at hl 0 rfl) ?_
    refine lv_i2l (v := (sBars N T a1 a2 : Int32).toInt64) hx hb dL_law_421 rfl ?_
    refine W.lcmp hx hb dL_law_422 ?_
    rw [zcmp rfl]
    refine lv_if_eq (tgt := 428) hx hb dL_law_423 (by decide) (fun _ => ?_) (fun h => absurd rfl h)
    refine lv_goto (tgt := 1915) hx hb dL_law_428 (by decide) ?_
    exact z_widen (zUp8 (K := K) (N := N) (N2 := N) rfl).1 (zUp8 (K := K) (N := N) (N2 := N) rfl).2 (kk N T _ _ _ _ ⟨_, _, _, _, _, _, _, rfl, hC2, ⟨E1, hg1, ag1, mn1, sd1, tk1, sg1, sn1, rfl, hM1⟩, hGo.up⟩ (z_psw hP) (z_dsw hD) hS (lv_sub hl [2, 3, 4, 5, 6] rfl))
  · skip
    obtain ⟨E1, hg1, ag1, mn1, sd1, tk1, sg1, sn1, rfl, hM1⟩ := hm.2 hk
    obtain ⟨A2, mc2, g2, hC2⟩ := h1 hk
    refine lv_istore (lv' := [(6, .int rb), (5, .int (sK1 ((sIx a1 9) && (sIx a2 8)))), (4, .int (nI (6 * K))), (0, .ref b), (1, .ref (r 0)), (2, .ref (q 0)), (3, .ref o)]) hx hb dL_law_398 hl (by decide) rfl (fun ls hl => ?_)
    refine lv_aload_n hx hb dL_law_400 rfl (lv_at hl 5 rfl) ?_
    refine z_csi (va_Run.run (va_runV (As := []) (rest := []) ⟨hx, hb, hml, hown, hts⟩ (c_X7_thrown l G q (sK1 ((sIx a1 9) && (sIx a2 8))) N T E1 hg1 ag1 mn1 sd1 tk1 sg1 sn1) (cwV 0 hts gL_law_X7_thrown rfl rfl rfl (by decide +kernel) ⟨Nat.le_of_ble_eq_true rfl, Nat.le_of_ble_eq_true rfl⟩) (z_pv hK (z_apL hP) (ci := 8) (q0 := 0) rfl rfl (z_apL hP)) rfl rfl hl.1 rfl (lv_room (Nat.le_of_ble_eq_true rfl)) dL_law_401 hrm)) (fun zt hzt => ?_)
    subst hzt
    refine lv_iload hx hb dL_law_404 (lv_at hl 1 rfl) ?_
    refine lv_icmp_eq (tgt := 411) hx hb dL_law_406 (by decide) (fun _ => ?_) (fun h => absurd rfl h)
    refine lv_iload hx hb dL_law_411 (lv_at hl 1 rfl) ?_
    refine lv_if_ne (tgt := 428) hx hb dL_law_413 (by decide) (fun _ => ?_) (fun h => absurd h hk)
    refine lv_goto (tgt := 1915) hx hb dL_law_428 (by decide) ?_
    exact z_widen (zUp8 (K := K) (N := N) (N2 := N) rfl).1 (zUp8 (K := K) (N := N) (N2 := N) rfl).2 (kk N T _ _ _ _ ⟨_, _, _, _, _, _, _, rfl, hC2, ⟨E1, hg1, ag1, mn1, sd1, tk1, sg1, sn1, rfl, hM1⟩, hGo.up⟩ (z_psw hP) (z_dsw hD) hS (lv_sub hl [2, 3, 4, 5, 6] rfl))

set_option maxHeartbeats 4000000 in
set_option maxRecDepth 100000 in
theorem law_c3 {p : Program} {l : Launch} {e : Env} {s : State} {m : MethodId} {below : List Frame} {meth : Method} {c : Code} {b L : Nat} {xs : Nat → Int32} (hL : L ≤ 3072) (hst : l.stackTraces = false) (C0 : zLA p s m c b L xs) {G : zG} {d : Nat} (hE : zLe G d s) {r q : Nat → Nat} {o K : Nat} {N : Nat → Nat} {T : Nat → Nat → Int32} {wz : va_W} {H : Heap} {locs : List Loc} (hw : zLw G d r q o K N T wz) (hi : 6 * K + 6 ≤ L) (hP : va_P G.1 vwCl wz H) (hD : va_D (fun a => s.heap.size ≤ a) wz) (hS : va_S (fun a => s.heap.size ≤ a) s.heap H locs) {ls : Array Slot} (hl : lv_has ls 7 [(4, .int (nI (6 * K))), (0, .ref b), (1, .ref (r 0)), (2, .ref (q 0)), (3, .ref o)]) (kk : zKK p l e s m below meth c b G d r q o K) : W p l e room_1 s m #[Value.ref b] below meth c H locs (zLc K N) (zLs K N) (lw_Z below #[Value.ref b] s) (F0 m 431 ls []) := by
  obtain ⟨hx, hb, hml, hown, hts, hXs, hbl⟩ := C0
  obtain ⟨hK, hZ, hLx⟩ := hE
  have hA : ∀ a : Nat, s.heap.size ≤ a → (fun a : Nat => s.heap.size ≤ a) a := fun _ h => h
  have hbA : ¬ (fun a : Nat => s.heap.size ≤ a) b := Nat.not_le.mpr hbl
  obtain ⟨A, mc, g, w, wm, th, f, rfl, hC, hMO, hGo⟩ := hw
  obtain ⟨E, hg, ag, mn, sd, tk, sg, sn, rfl, hM⟩ := hMO
  have hK5 : K ≤ 511 := by omega
  obtain ⟨a1, hz1⟩ : ∃ y, y = xs (6 * K + 1) := ⟨_, rfl⟩
  have hrm := zRk8 hGo hK5
  refine lv_aload_n hx hb dL_law_431 rfl (lv_at hl 2 rfl) ?_
  refine z_arg hx hb hXs hbl hbA hS (k := 1) (lv_at hl 1 rfl) (lv_at hl 0 rfl) (by decide) (by omega) hL hz1 dL_law_432 dL_law_433 dL_law_435 dL_law_436 dL_law_437 ?_
  refine lv_aload_n hx hb dL_law_438 rfl (lv_at hl 4 rfl) ?_
  refine z_xi (G := G) (w := (w ++ ([(o, zOut G f)] : va_W))) (vx_runSX (hh := [(0, 16, 19, 13)]) (As := [.ref (r 0), .int a1, .ref o]) (rest := []) ⟨hx, hb, hml, hown, hts⟩ (h_isOpen l hst G d r A mc g N T w K a1 o f H.size hC hGo.1 hK5 ) (vx_cwSW 3 hts gL_law_L_isOpen rfl rfl rfl (by decide +kernel) ⟨Nat.le_of_ble_eq_true rfl, Nat.le_of_ble_eq_true rfl⟩) (z_hs hK (z_apL hP) (z_dL hD) hZ hLx hS hA) rfl rfl hl.1 rfl (lv_room (Nat.le_of_ble_eq_true rfl)) dL_law_439 hrm) hP hD hS hA (fun i E ce q9 Hz Lz hk hE hP hS hce hcv hcl => absurd hE (by simp)) (fun k5 w1 Hz Lz hq hP hD hS => ?_)
  obtain ⟨hk5, w2, f2, rfl, h0, h1⟩ := hq
  subst hk5
  refine lv_istore (lv' := [(5, .int (sK1 (sIx a1 8))), (4, .int (nI (6 * K))), (0, .ref b), (1, .ref (r 0)), (2, .ref (q 0)), (3, .ref o)]) hx hb dL_law_442 hl (by decide) rfl (fun ls hl => ?_)
  refine lv_aload_n hx hb dL_law_444 rfl (lv_at hl 4 rfl) ?_
  refine z_arg hx hb hXs hbl hbA hS (k := 1) (lv_at hl 2 rfl) (lv_at hl 1 rfl) (by decide) (by omega) hL hz1 dL_law_445 dL_law_446 dL_law_448 dL_law_449 dL_law_450 ?_
  refine z_li (G := G) (w := mW G q th N T E hg ag mn sd tk sg sn) (wr := w2 ++ ([(o, zOut G f2)] : va_W)) (va_runV (As := [.int a1]) (rest := []) ⟨hx, hb, hml, hown, hts⟩ (c_X7_isOpen l G q th N T E hg ag mn sd tk sg sn a1 K Hz.size hGo.1 (by omega) hM ) (cwV 1 hts gL_law_X7_isOpen rfl rfl rfl (by decide +kernel) ⟨Nat.le_of_ble_eq_true rfl, Nat.le_of_ble_eq_true rfl⟩) (z_uv hK (z_apL (z_psw hP)) (ci := 8) (q0 := 0) rfl rfl (z_apL (z_psw hP)) (z_dL (z_dsw hD))) rfl rfl hl.1 rfl (lv_room (Nat.le_of_ble_eq_true rfl)) dL_law_451 hrm) (z_psw hP) (z_dsw hD) hS hA (fun rb wm1 Hz Lz hm hP hD hS => ?_)
  by_cases hk : sK1 (sIx a1 8) = 0
  · skip
    obtain ⟨hrb, E1, hg1, ag1, mn1, sd1, tk1, sg1, sn1, rfl, hM1⟩ := hm.1 hk
    obtain ⟨hf2, A2, mc2, g2, hC2⟩ := h0 hk
    subst hrb
    refine lv_istore (lv' := [(6, .int (T 3 a1.toNatClampNeg)), (5, .int (sK1 (sIx a1 8))), (4, .int (nI (6 * K))), (0, .ref b), (1, .ref (r 0)), (2, .ref (q 0)), (3, .ref o)]) hx hb dL_law_454 hl (by decide) rfl (fun ls hl => ?_)
    refine lv_aload_n hx hb dL_law_456 rfl (lv_at hl 5 rfl) ?_
    refine z_csi (va_Run.run (va_runV (As := []) (rest := []) ⟨hx, hb, hml, hown, hts⟩ (c_X7_thrown l G q (sK1 (sIx a1 8)) N T E1 hg1 ag1 mn1 sd1 tk1 sg1 sn1) (cwV 0 hts gL_law_X7_thrown rfl rfl rfl (by decide +kernel) ⟨Nat.le_of_ble_eq_true rfl, Nat.le_of_ble_eq_true rfl⟩) (z_pv hK (z_apL hP) (ci := 8) (q0 := 0) rfl rfl (z_apL hP)) rfl rfl hl.1 rfl (lv_room (Nat.le_of_ble_eq_true rfl)) dL_law_457 hrm)) (fun zt hzt => ?_)
    subst hzt
    refine lv_iload hx hb dL_law_460 (lv_at hl 1 rfl) ?_
    refine lv_icmp_eq (tgt := 467) hx hb dL_law_462 (by decide) (fun _ => ?_) (fun h => absurd rfl h)
    refine lv_iload hx hb dL_law_467 (lv_at hl 1 rfl) ?_
    refine lv_if_ne (tgt := 491) hx hb dL_law_469 (by decide) (fun h => absurd hk h) (fun _ => ?_)
    refine lv_aload_n hx hb dL_law_472 rfl (lv_at hl 6 rfl) ?_
    refine lv_iconst (v := 0) hx hb dL_law_473 (by decide) ?_
    refine va_lald hx hb hK (z_apR hP) w2.length 1 z_atx rfl (vp_in_nI (n := 0) (by decide) (by decide)) dL_law_474 ?_
    rw [show f2 (0 : Int32).toNatClampNeg = (zL1 (T 3 a1.toNatClampNeg)) from hf2]
    refine lv_iload hx hb dL_law_475 (lv_at hl 0 rfl) ?_
    refine z_bl hx hb dL_law_477 dL_law_480 dL_law_481 dL_law_484 ?_
    refine W.lcmp hx hb dL_law_485 ?_
    rw [zcmp rfl]
    refine lv_if_eq (tgt := 491) hx hb dL_law_486 (by decide) (fun _ => ?_) (fun h => absurd rfl h)
    refine lv_goto (tgt := 1915) hx hb dL_law_491 (by decide) ?_
    exact z_widen (zUp8 (K := K) (N := N) (N2 := N) rfl).1 (zUp8 (K := K) (N := N) (N2 := N) rfl).2 (kk N T _ _ _ _ ⟨_, _, _, _, _, _, _, rfl, hC2, ⟨E1, hg1, ag1, mn1, sd1, tk1, sg1, sn1, rfl, hM1⟩, hGo.up⟩ (z_psw hP) (z_dsw hD) hS (lv_sub hl [2, 3, 4, 5, 6] rfl))
  · skip
    obtain ⟨E1, hg1, ag1, mn1, sd1, tk1, sg1, sn1, rfl, hM1⟩ := hm.2 hk
    obtain ⟨A2, mc2, g2, hC2⟩ := h1 hk
    refine lv_istore (lv' := [(6, .int rb), (5, .int (sK1 (sIx a1 8))), (4, .int (nI (6 * K))), (0, .ref b), (1, .ref (r 0)), (2, .ref (q 0)), (3, .ref o)]) hx hb dL_law_454 hl (by decide) rfl (fun ls hl => ?_)
    refine lv_aload_n hx hb dL_law_456 rfl (lv_at hl 5 rfl) ?_
    refine z_csi (va_Run.run (va_runV (As := []) (rest := []) ⟨hx, hb, hml, hown, hts⟩ (c_X7_thrown l G q (sK1 (sIx a1 8)) N T E1 hg1 ag1 mn1 sd1 tk1 sg1 sn1) (cwV 0 hts gL_law_X7_thrown rfl rfl rfl (by decide +kernel) ⟨Nat.le_of_ble_eq_true rfl, Nat.le_of_ble_eq_true rfl⟩) (z_pv hK (z_apL hP) (ci := 8) (q0 := 0) rfl rfl (z_apL hP)) rfl rfl hl.1 rfl (lv_room (Nat.le_of_ble_eq_true rfl)) dL_law_457 hrm)) (fun zt hzt => ?_)
    subst hzt
    refine lv_iload hx hb dL_law_460 (lv_at hl 1 rfl) ?_
    refine lv_icmp_eq (tgt := 467) hx hb dL_law_462 (by decide) (fun _ => ?_) (fun h => absurd rfl h)
    refine lv_iload hx hb dL_law_467 (lv_at hl 1 rfl) ?_
    refine lv_if_ne (tgt := 491) hx hb dL_law_469 (by decide) (fun _ => ?_) (fun h => absurd h hk)
    refine lv_goto (tgt := 1915) hx hb dL_law_491 (by decide) ?_
    exact z_widen (zUp8 (K := K) (N := N) (N2 := N) rfl).1 (zUp8 (K := K) (N := N) (N2 := N) rfl).2 (kk N T _ _ _ _ ⟨_, _, _, _, _, _, _, rfl, hC2, ⟨E1, hg1, ag1, mn1, sd1, tk1, sg1, sn1, rfl, hM1⟩, hGo.up⟩ (z_psw hP) (z_dsw hD) hS (lv_sub hl [2, 3, 4, 5, 6] rfl))

set_option maxHeartbeats 4000000 in
set_option maxRecDepth 100000 in
theorem law_c4 {p : Program} {l : Launch} {e : Env} {s : State} {m : MethodId} {below : List Frame} {meth : Method} {c : Code} {b L : Nat} {xs : Nat → Int32} (hL : L ≤ 3072) (hst : l.stackTraces = false) (C0 : zLA p s m c b L xs) {G : zG} {d : Nat} (hE : zLe G d s) {r q : Nat → Nat} {o K : Nat} {N : Nat → Nat} {T : Nat → Nat → Int32} {wz : va_W} {H : Heap} {locs : List Loc} (hw : zLw G d r q o K N T wz) (hi : 6 * K + 6 ≤ L) (hP : va_P G.1 vwCl wz H) (hD : va_D (fun a => s.heap.size ≤ a) wz) (hS : va_S (fun a => s.heap.size ≤ a) s.heap H locs) {ls : Array Slot} (hl : lv_has ls 7 [(4, .int (nI (6 * K))), (0, .ref b), (1, .ref (r 0)), (2, .ref (q 0)), (3, .ref o)]) (kk : zKK p l e s m below meth c b G d r q o K) : W p l e room_1 s m #[Value.ref b] below meth c H locs (zLc K N) (zLs K N) (lw_Z below #[Value.ref b] s) (F0 m 494 ls []) := by
  obtain ⟨hx, hb, hml, hown, hts, hXs, hbl⟩ := C0
  obtain ⟨hK, hZ, hLx⟩ := hE
  have hA : ∀ a : Nat, s.heap.size ≤ a → (fun a : Nat => s.heap.size ≤ a) a := fun _ h => h
  have hbA : ¬ (fun a : Nat => s.heap.size ≤ a) b := Nat.not_le.mpr hbl
  obtain ⟨A, mc, g, w, wm, th, f, rfl, hC, hMO, hGo⟩ := hw
  obtain ⟨E, hg, ag, mn, sd, tk, sg, sn, rfl, hM⟩ := hMO
  have hK5 : K ≤ 511 := by omega
  obtain ⟨a1, hz1⟩ : ∃ y, y = xs (6 * K + 1) := ⟨_, rfl⟩
  have hrm := zRk8 hGo hK5
  refine lv_aload_n hx hb dL_law_494 rfl (lv_at hl 2 rfl) ?_
  refine z_arg hx hb hXs hbl hbA hS (k := 1) (lv_at hl 1 rfl) (lv_at hl 0 rfl) (by decide) (by omega) hL hz1 dL_law_495 dL_law_496 dL_law_498 dL_law_499 dL_law_500 ?_
  refine lv_aload_n hx hb dL_law_501 rfl (lv_at hl 4 rfl) ?_
  refine z_xi (G := G) (w := (w ++ ([(o, zOut G f)] : va_W))) (vx_runSX (hh := [(0, 16, 19, 13)]) (As := [.ref (r 0), .int a1, .ref o]) (rest := []) ⟨hx, hb, hml, hown, hts⟩ (h_isOpenByLog l hst G d r A mc g N T w K a1 o f H.size hC hGo.1 hK5 hGo.2) (vx_cwSW 3 hts gL_law_L_isOpenByLog rfl rfl rfl (by decide +kernel) ⟨Nat.le_of_ble_eq_true rfl, Nat.le_of_ble_eq_true rfl⟩) (z_hs hK (z_apL hP) (z_dL hD) hZ hLx hS hA) rfl rfl hl.1 rfl (lv_room (Nat.le_of_ble_eq_true rfl)) dL_law_502 hrm) hP hD hS hA (fun i E ce q9 Hz Lz hk hE hP hS hce hcv hcl => absurd hE (by simp)) (fun k5 w1 Hz Lz hq hP hD hS => ?_)
  obtain ⟨hk5, w2, f2, rfl, h0, h1⟩ := hq
  subst hk5
  refine lv_istore (lv' := [(5, .int (sK1 (sIx a1 8))), (4, .int (nI (6 * K))), (0, .ref b), (1, .ref (r 0)), (2, .ref (q 0)), (3, .ref o)]) hx hb dL_law_505 hl (by decide) rfl (fun ls hl => ?_)
  refine lv_aload_n hx hb dL_law_507 rfl (lv_at hl 4 rfl) ?_
  refine z_arg hx hb hXs hbl hbA hS (k := 1) (lv_at hl 2 rfl) (lv_at hl 1 rfl) (by decide) (by omega) hL hz1 dL_law_508 dL_law_509 dL_law_511 dL_law_512 dL_law_513 ?_
  refine z_li (G := G) (w := mW G q th N T E hg ag mn sd tk sg sn) (wr := w2 ++ ([(o, zOut G f2)] : va_W)) (va_runV (As := [.int a1]) (rest := []) ⟨hx, hb, hml, hown, hts⟩ (c_X7_isOpenByLog l G q th N T E hg ag mn sd tk sg sn a1 K Hz.size hGo.1 (by omega) hM ) (cwV 1 hts gL_law_X7_isOpenByLog rfl rfl rfl (by decide +kernel) ⟨Nat.le_of_ble_eq_true rfl, Nat.le_of_ble_eq_true rfl⟩) (z_uv hK (z_apL (z_psw hP)) (ci := 8) (q0 := 0) rfl rfl (z_apL (z_psw hP)) (z_dL (z_dsw hD))) rfl rfl hl.1 rfl (lv_room (Nat.le_of_ble_eq_true rfl)) dL_law_514 hrm) (z_psw hP) (z_dsw hD) hS hA (fun rb wm1 Hz Lz hm hP hD hS => ?_)
  by_cases hk : sK1 (sIx a1 8) = 0
  · skip
    obtain ⟨hrb, E1, hg1, ag1, mn1, sd1, tk1, sg1, sn1, rfl, hM1⟩ := hm.1 hk
    obtain ⟨hf2, A2, mc2, g2, hC2⟩ := h0 hk
    subst hrb
    refine lv_istore (lv' := [(6, .int (T 3 a1.toNatClampNeg)), (5, .int (sK1 (sIx a1 8))), (4, .int (nI (6 * K))), (0, .ref b), (1, .ref (r 0)), (2, .ref (q 0)), (3, .ref o)]) hx hb dL_law_517 hl (by decide) rfl (fun ls hl => ?_)
    refine lv_aload_n hx hb dL_law_519 rfl (lv_at hl 5 rfl) ?_
    refine z_csi (va_Run.run (va_runV (As := []) (rest := []) ⟨hx, hb, hml, hown, hts⟩ (c_X7_thrown l G q (sK1 (sIx a1 8)) N T E1 hg1 ag1 mn1 sd1 tk1 sg1 sn1) (cwV 0 hts gL_law_X7_thrown rfl rfl rfl (by decide +kernel) ⟨Nat.le_of_ble_eq_true rfl, Nat.le_of_ble_eq_true rfl⟩) (z_pv hK (z_apL hP) (ci := 8) (q0 := 0) rfl rfl (z_apL hP)) rfl rfl hl.1 rfl (lv_room (Nat.le_of_ble_eq_true rfl)) dL_law_520 hrm)) (fun zt hzt => ?_)
    subst hzt
    refine lv_iload hx hb dL_law_523 (lv_at hl 1 rfl) ?_
    refine lv_icmp_eq (tgt := 530) hx hb dL_law_525 (by decide) (fun _ => ?_) (fun h => absurd rfl h)
    refine lv_iload hx hb dL_law_530 (lv_at hl 1 rfl) ?_
    refine lv_if_ne (tgt := 554) hx hb dL_law_532 (by decide) (fun h => absurd hk h) (fun _ => ?_)
    refine lv_aload_n hx hb dL_law_535 rfl (lv_at hl 6 rfl) ?_
    refine lv_iconst (v := 0) hx hb dL_law_536 (by decide) ?_
    refine va_lald hx hb hK (z_apR hP) w2.length 1 z_atx rfl (vp_in_nI (n := 0) (by decide) (by decide)) dL_law_537 ?_
    rw [show f2 (0 : Int32).toNatClampNeg = (zL1 (T 3 a1.toNatClampNeg)) from hf2]
    refine lv_iload hx hb dL_law_538 (lv_at hl 0 rfl) ?_
    refine z_bl hx hb dL_law_540 dL_law_543 dL_law_544 dL_law_547 ?_
    refine W.lcmp hx hb dL_law_548 ?_
    rw [zcmp rfl]
    refine lv_if_eq (tgt := 554) hx hb dL_law_549 (by decide) (fun _ => ?_) (fun h => absurd rfl h)
    refine lv_goto (tgt := 1915) hx hb dL_law_554 (by decide) ?_
    exact z_widen (zUp8 (K := K) (N := N) (N2 := N) rfl).1 (zUp8 (K := K) (N := N) (N2 := N) rfl).2 (kk N T _ _ _ _ ⟨_, _, _, _, _, _, _, rfl, hC2, ⟨E1, hg1, ag1, mn1, sd1, tk1, sg1, sn1, rfl, hM1⟩, hGo.up⟩ (z_psw hP) (z_dsw hD) hS (lv_sub hl [2, 3, 4, 5, 6] rfl))
  · skip
    obtain ⟨E1, hg1, ag1, mn1, sd1, tk1, sg1, sn1, rfl, hM1⟩ := hm.2 hk
    obtain ⟨A2, mc2, g2, hC2⟩ := h1 hk
    refine lv_istore (lv' := [(6, .int rb), (5, .int (sK1 (sIx a1 8))), (4, .int (nI (6 * K))), (0, .ref b), (1, .ref (r 0)), (2, .ref (q 0)), (3, .ref o)]) hx hb dL_law_517 hl (by decide) rfl (fun ls hl => ?_)
    refine lv_aload_n hx hb dL_law_519 rfl (lv_at hl 5 rfl) ?_
    refine z_csi (va_Run.run (va_runV (As := []) (rest := []) ⟨hx, hb, hml, hown, hts⟩ (c_X7_thrown l G q (sK1 (sIx a1 8)) N T E1 hg1 ag1 mn1 sd1 tk1 sg1 sn1) (cwV 0 hts gL_law_X7_thrown rfl rfl rfl (by decide +kernel) ⟨Nat.le_of_ble_eq_true rfl, Nat.le_of_ble_eq_true rfl⟩) (z_pv hK (z_apL hP) (ci := 8) (q0 := 0) rfl rfl (z_apL hP)) rfl rfl hl.1 rfl (lv_room (Nat.le_of_ble_eq_true rfl)) dL_law_520 hrm)) (fun zt hzt => ?_)
    subst hzt
    refine lv_iload hx hb dL_law_523 (lv_at hl 1 rfl) ?_
    refine lv_icmp_eq (tgt := 530) hx hb dL_law_525 (by decide) (fun _ => ?_) (fun h => absurd rfl h)
    refine lv_iload hx hb dL_law_530 (lv_at hl 1 rfl) ?_
    refine lv_if_ne (tgt := 554) hx hb dL_law_532 (by decide) (fun _ => ?_) (fun h => absurd h hk)
    refine lv_goto (tgt := 1915) hx hb dL_law_554 (by decide) ?_
    exact z_widen (zUp8 (K := K) (N := N) (N2 := N) rfl).1 (zUp8 (K := K) (N := N) (N2 := N) rfl).2 (kk N T _ _ _ _ ⟨_, _, _, _, _, _, _, rfl, hC2, ⟨E1, hg1, ag1, mn1, sd1, tk1, sg1, sn1, rfl, hM1⟩, hGo.up⟩ (z_psw hP) (z_dsw hD) hS (lv_sub hl [2, 3, 4, 5, 6] rfl))

set_option maxHeartbeats 4000000 in
set_option maxRecDepth 100000 in
theorem law_c5 {p : Program} {l : Launch} {e : Env} {s : State} {m : MethodId} {below : List Frame} {meth : Method} {c : Code} {b L : Nat} {xs : Nat → Int32} (hL : L ≤ 3072) (hst : l.stackTraces = false) (C0 : zLA p s m c b L xs) {G : zG} {d : Nat} (hE : zLe G d s) {r q : Nat → Nat} {o K : Nat} {N : Nat → Nat} {T : Nat → Nat → Int32} {wz : va_W} {H : Heap} {locs : List Loc} (hw : zLw G d r q o K N T wz) (hi : 6 * K + 6 ≤ L) (hP : va_P G.1 vwCl wz H) (hD : va_D (fun a => s.heap.size ≤ a) wz) (hS : va_S (fun a => s.heap.size ≤ a) s.heap H locs) {ls : Array Slot} (hl : lv_has ls 7 [(4, .int (nI (6 * K))), (0, .ref b), (1, .ref (r 0)), (2, .ref (q 0)), (3, .ref o)]) (kk : zKK p l e s m below meth c b G d r q o K) : W p l e room_1 s m #[Value.ref b] below meth c H locs (zLc K N) (zLs K N) (lw_Z below #[Value.ref b] s) (F0 m 557 ls []) := by
  obtain ⟨hx, hb, hml, hown, hts, hXs, hbl⟩ := C0
  obtain ⟨hK, hZ, hLx⟩ := hE
  have hA : ∀ a : Nat, s.heap.size ≤ a → (fun a : Nat => s.heap.size ≤ a) a := fun _ h => h
  have hbA : ¬ (fun a : Nat => s.heap.size ≤ a) b := Nat.not_le.mpr hbl
  obtain ⟨A, mc, g, w, wm, th, f, rfl, hC, hMO, hGo⟩ := hw
  obtain ⟨E, hg, ag, mn, sd, tk, sg, sn, rfl, hM⟩ := hMO
  have hK5 : K ≤ 511 := by omega
  obtain ⟨a1, hz1⟩ : ∃ y, y = xs (6 * K + 1) := ⟨_, rfl⟩
  have hrm := zRk8 hGo hK5
  refine lv_aload_n hx hb dL_law_557 rfl (lv_at hl 2 rfl) ?_
  refine z_arg hx hb hXs hbl hbA hS (k := 1) (lv_at hl 1 rfl) (lv_at hl 0 rfl) (by decide) (by omega) hL hz1 dL_law_558 dL_law_559 dL_law_561 dL_law_562 dL_law_563 ?_
  refine lv_aload_n hx hb dL_law_564 rfl (lv_at hl 4 rfl) ?_
  refine z_xi (G := G) (w := (w ++ ([(o, zOut G f)] : va_W))) (vx_runSX (hh := [(0, 9, 12, 13)]) (As := [.ref (r 0), .int a1, .ref o]) (rest := []) ⟨hx, hb, hml, hown, hts⟩ (h_level l hst G d r A mc g N T w K a1 o f H.size hC hGo.1 hK5 ) (vx_cwSW 3 hts gL_law_L_level rfl rfl rfl (by decide +kernel) ⟨Nat.le_of_ble_eq_true rfl, Nat.le_of_ble_eq_true rfl⟩) (z_hs hK (z_apL hP) (z_dL hD) hZ hLx hS hA) rfl rfl hl.1 rfl (lv_room (Nat.le_of_ble_eq_true rfl)) dL_law_565 hrm) hP hD hS hA (fun i E ce q9 Hz Lz hk hE hP hS hce hcv hcl => absurd hE (by simp)) (fun k5 w1 Hz Lz hq hP hD hS => ?_)
  obtain ⟨hk5, w2, f2, rfl, h0, h1⟩ := hq
  subst hk5
  refine lv_istore (lv' := [(5, .int (sK1 (sIx a1 3))), (4, .int (nI (6 * K))), (0, .ref b), (1, .ref (r 0)), (2, .ref (q 0)), (3, .ref o)]) hx hb dL_law_568 hl (by decide) rfl (fun ls hl => ?_)
  refine lv_aload_n hx hb dL_law_570 rfl (lv_at hl 4 rfl) ?_
  refine z_arg hx hb hXs hbl hbA hS (k := 1) (lv_at hl 2 rfl) (lv_at hl 1 rfl) (by decide) (by omega) hL hz1 dL_law_571 dL_law_572 dL_law_574 dL_law_575 dL_law_576 ?_
  refine z_li (G := G) (w := mW G q th N T E hg ag mn sd tk sg sn) (wr := w2 ++ ([(o, zOut G f2)] : va_W)) (va_runV (As := [.int a1]) (rest := []) ⟨hx, hb, hml, hown, hts⟩ (c_X7_level l G q th N T E hg ag mn sd tk sg sn a1 K Hz.size hGo.1 (by omega) hM ) (cwV 1 hts gL_law_X7_level rfl rfl rfl (by decide +kernel) ⟨Nat.le_of_ble_eq_true rfl, Nat.le_of_ble_eq_true rfl⟩) (z_uv hK (z_apL (z_psw hP)) (ci := 8) (q0 := 0) rfl rfl (z_apL (z_psw hP)) (z_dL (z_dsw hD))) rfl rfl hl.1 rfl (lv_room (Nat.le_of_ble_eq_true rfl)) dL_law_577 hrm) (z_psw hP) (z_dsw hD) hS hA (fun rb wm1 Hz Lz hm hP hD hS => ?_)
  by_cases hk : sK1 (sIx a1 3) = 0
  · skip
    obtain ⟨hrb, E1, hg1, ag1, mn1, sd1, tk1, sg1, sn1, rfl, hM1⟩ := hm.1 hk
    obtain ⟨hf2, A2, mc2, g2, hC2⟩ := h0 hk
    subst hrb
    refine lv_istore (lv' := [(6, .int (T 6 a1.toNatClampNeg)), (5, .int (sK1 (sIx a1 3))), (4, .int (nI (6 * K))), (0, .ref b), (1, .ref (r 0)), (2, .ref (q 0)), (3, .ref o)]) hx hb dL_law_580 hl (by decide) rfl (fun ls hl => ?_)
    refine lv_aload_n hx hb dL_law_582 rfl (lv_at hl 5 rfl) ?_
    refine z_csi (va_Run.run (va_runV (As := []) (rest := []) ⟨hx, hb, hml, hown, hts⟩ (c_X7_thrown l G q (sK1 (sIx a1 3)) N T E1 hg1 ag1 mn1 sd1 tk1 sg1 sn1) (cwV 0 hts gL_law_X7_thrown rfl rfl rfl (by decide +kernel) ⟨Nat.le_of_ble_eq_true rfl, Nat.le_of_ble_eq_true rfl⟩) (z_pv hK (z_apL hP) (ci := 8) (q0 := 0) rfl rfl (z_apL hP)) rfl rfl hl.1 rfl (lv_room (Nat.le_of_ble_eq_true rfl)) dL_law_583 hrm)) (fun zt hzt => ?_)
    subst hzt
    refine lv_iload hx hb dL_law_586 (lv_at hl 1 rfl) ?_
    refine lv_icmp_eq (tgt := 593) hx hb dL_law_588 (by decide) (fun _ => ?_) (fun h => absurd rfl h)
    refine lv_iload hx hb dL_law_593 (lv_at hl 1 rfl) ?_
    refine lv_if_ne (tgt := 610) hx hb dL_law_595 (by decide) (fun h => absurd hk h) (fun _ => ?_)
    refine lv_aload_n hx hb dL_law_598 rfl (lv_at hl 6 rfl) ?_
    refine lv_iconst (v := 0) hx hb dL_law_599 (by decide) ?_
    refine va_lald hx hb hK (z_apR hP) w2.length 1 z_atx rfl (vp_in_nI (n := 0) (by decide) (by decide)) dL_law_600 ?_
    rw [show f2 (0 : Int32).toNatClampNeg = (T 6 a1.toNatClampNeg : Int32).toInt64 from hf2]
    refine lv_iload hx hb dL_law_601 (lv_at hl 0 rfl) ?_
    refine lv_i2l (v := (T 6 a1.toNatClampNeg : Int32).toInt64) hx hb dL_law_603 rfl ?_
    refine W.lcmp hx hb dL_law_604 ?_
    rw [zcmp rfl]
    refine lv_if_eq (tgt := 610) hx hb dL_law_605 (by decide) (fun _ => ?_) (fun h => absurd rfl h)
    refine lv_goto (tgt := 1915) hx hb dL_law_610 (by decide) ?_
    exact z_widen (zUp8 (K := K) (N := N) (N2 := N) rfl).1 (zUp8 (K := K) (N := N) (N2 := N) rfl).2 (kk N T _ _ _ _ ⟨_, _, _, _, _, _, _, rfl, hC2, ⟨E1, hg1, ag1, mn1, sd1, tk1, sg1, sn1, rfl, hM1⟩, hGo.up⟩ (z_psw hP) (z_dsw hD) hS (lv_sub hl [2, 3, 4, 5, 6] rfl))
  · skip
    obtain ⟨E1, hg1, ag1, mn1, sd1, tk1, sg1, sn1, rfl, hM1⟩ := hm.2 hk
    obtain ⟨A2, mc2, g2, hC2⟩ := h1 hk
    refine lv_istore (lv' := [(6, .int rb), (5, .int (sK1 (sIx a1 3))), (4, .int (nI (6 * K))), (0, .ref b), (1, .ref (r 0)), (2, .ref (q 0)), (3, .ref o)]) hx hb dL_law_580 hl (by decide) rfl (fun ls hl => ?_)
    refine lv_aload_n hx hb dL_law_582 rfl (lv_at hl 5 rfl) ?_
    refine z_csi (va_Run.run (va_runV (As := []) (rest := []) ⟨hx, hb, hml, hown, hts⟩ (c_X7_thrown l G q (sK1 (sIx a1 3)) N T E1 hg1 ag1 mn1 sd1 tk1 sg1 sn1) (cwV 0 hts gL_law_X7_thrown rfl rfl rfl (by decide +kernel) ⟨Nat.le_of_ble_eq_true rfl, Nat.le_of_ble_eq_true rfl⟩) (z_pv hK (z_apL hP) (ci := 8) (q0 := 0) rfl rfl (z_apL hP)) rfl rfl hl.1 rfl (lv_room (Nat.le_of_ble_eq_true rfl)) dL_law_583 hrm)) (fun zt hzt => ?_)
    subst hzt
    refine lv_iload hx hb dL_law_586 (lv_at hl 1 rfl) ?_
    refine lv_icmp_eq (tgt := 593) hx hb dL_law_588 (by decide) (fun _ => ?_) (fun h => absurd rfl h)
    refine lv_iload hx hb dL_law_593 (lv_at hl 1 rfl) ?_
    refine lv_if_ne (tgt := 610) hx hb dL_law_595 (by decide) (fun _ => ?_) (fun h => absurd h hk)
    refine lv_goto (tgt := 1915) hx hb dL_law_610 (by decide) ?_
    exact z_widen (zUp8 (K := K) (N := N) (N2 := N) rfl).1 (zUp8 (K := K) (N := N) (N2 := N) rfl).2 (kk N T _ _ _ _ ⟨_, _, _, _, _, _, _, rfl, hC2, ⟨E1, hg1, ag1, mn1, sd1, tk1, sg1, sn1, rfl, hM1⟩, hGo.up⟩ (z_psw hP) (z_dsw hD) hS (lv_sub hl [2, 3, 4, 5, 6] rfl))

set_option maxHeartbeats 4000000 in
set_option maxRecDepth 100000 in
theorem law_c6 {p : Program} {l : Launch} {e : Env} {s : State} {m : MethodId} {below : List Frame} {meth : Method} {c : Code} {b L : Nat} {xs : Nat → Int32} (hL : L ≤ 3072) (hst : l.stackTraces = false) (C0 : zLA p s m c b L xs) {G : zG} {d : Nat} (hE : zLe G d s) {r q : Nat → Nat} {o K : Nat} {N : Nat → Nat} {T : Nat → Nat → Int32} {wz : va_W} {H : Heap} {locs : List Loc} (hw : zLw G d r q o K N T wz) (hi : 6 * K + 6 ≤ L) (hP : va_P G.1 vwCl wz H) (hD : va_D (fun a => s.heap.size ≤ a) wz) (hS : va_S (fun a => s.heap.size ≤ a) s.heap H locs) {ls : Array Slot} (hl : lv_has ls 7 [(4, .int (nI (6 * K))), (0, .ref b), (1, .ref (r 0)), (2, .ref (q 0)), (3, .ref o)]) (kk : zKK p l e s m below meth c b G d r q o K) : W p l e room_1 s m #[Value.ref b] below meth c H locs (zLc K N) (zLs K N) (lw_Z below #[Value.ref b] s) (F0 m 613 ls []) := by
  obtain ⟨hx, hb, hml, hown, hts, hXs, hbl⟩ := C0
  obtain ⟨hK, hZ, hLx⟩ := hE
  have hA : ∀ a : Nat, s.heap.size ≤ a → (fun a : Nat => s.heap.size ≤ a) a := fun _ h => h
  have hbA : ¬ (fun a : Nat => s.heap.size ≤ a) b := Nat.not_le.mpr hbl
  obtain ⟨A, mc, g, w, wm, th, f, rfl, hC, hMO, hGo⟩ := hw
  obtain ⟨E, hg, ag, mn, sd, tk, sg, sn, rfl, hM⟩ := hMO
  have hK5 : K ≤ 511 := by omega
  have hrm := zRk0 hGo hK5
  have hNs : sSm N := sSm.of hGo.1
  refine lv_aload_n hx hb dL_law_613 rfl (lv_at hl 2 rfl) ?_
  rw [List.append_assoc] at hP hD
  refine z_li (G := G) (w := w) (va_runV (As := []) (rest := []) ⟨hx, hb, hml, hown, hts⟩ (c_X6_spilled l G d r A mc g N T w H.size hC hNs) (cwV 0 hts gL_law_X6_spilled rfl rfl rfl (by decide +kernel) ⟨Nat.le_of_ble_eq_true rfl, Nat.le_of_ble_eq_true rfl⟩) (z_wv hK (z_apL hP) (ci := 7) (q0 := 0) rfl (hC.1.1 0 (by omega)) (z_apL hP) (z_dL hD) hZ hS hA) rfl rfl hl.1 rfl (lv_room (Nat.le_of_ble_eq_true rfl)) dL_law_614 hrm) hP hD hS hA (fun ra w2 Hz Lz hq hP hD hS => ?_)
  obtain ⟨hra, A2, mc2, g2, hC2⟩ := hq
  subst hra
  rw [← List.append_assoc] at hP hD
  refine lv_aload_n hx hb dL_law_617 rfl (lv_at hl 3 rfl) ?_
  refine z_li (G := G) (w := mW G q th N T E hg ag mn sd tk sg sn) (wr := w2 ++ ([(o, zOut G f)] : va_W)) (va_runV (As := []) (rest := [.int (T 19 1)]) ⟨hx, hb, hml, hown, hts⟩ (c_X7_spilled l G q th N T E hg ag mn sd tk sg sn K Hz.size hGo.1 (by omega) hM) (cwV 0 hts gL_law_X7_spilled rfl rfl rfl (by decide +kernel) ⟨Nat.le_of_ble_eq_true rfl, Nat.le_of_ble_eq_true rfl⟩) (z_uv hK (z_apL (z_psw hP)) (ci := 8) (q0 := 0) rfl rfl (z_apL (z_psw hP)) (z_dL (z_dsw hD))) rfl rfl hl.1 rfl (lv_room (Nat.le_of_ble_eq_true rfl)) dL_law_618 hrm) (z_psw hP) (z_dsw hD) hS hA (fun rb wm1 Hz Lz hm hP hD hS => ?_)
  obtain ⟨hrb, E1, hg1, ag1, mn1, sd1, tk1, sg1, sn1, rfl, hM1⟩ := hm
  subst hrb
  refine lv_icmp_eq (tgt := 1915) hx hb dL_law_621 (by decide) (fun _ => ?_) (fun h => absurd rfl h)
  exact z_widen (zUpo (K := K) (N := N) (N2 := N) rfl).1 (zUpo (K := K) (N := N) (N2 := N) rfl).2 (kk N T _ _ _ _ ⟨_, _, _, _, _, _, _, rfl, hC2, ⟨E1, hg1, ag1, mn1, sd1, tk1, sg1, sn1, rfl, hM1⟩, hGo.up⟩ (z_psw hP) (z_dsw hD) hS (lv_sub hl [0, 1, 2, 3, 4] rfl))

set_option maxHeartbeats 4000000 in
set_option maxRecDepth 100000 in
theorem law_c7 {p : Program} {l : Launch} {e : Env} {s : State} {m : MethodId} {below : List Frame} {meth : Method} {c : Code} {b L : Nat} {xs : Nat → Int32} (hL : L ≤ 3072) (hst : l.stackTraces = false) (C0 : zLA p s m c b L xs) {G : zG} {d : Nat} (hE : zLe G d s) {r q : Nat → Nat} {o K : Nat} {N : Nat → Nat} {T : Nat → Nat → Int32} {wz : va_W} {H : Heap} {locs : List Loc} (hw : zLw G d r q o K N T wz) (hi : 6 * K + 6 ≤ L) (hP : va_P G.1 vwCl wz H) (hD : va_D (fun a => s.heap.size ≤ a) wz) (hS : va_S (fun a => s.heap.size ≤ a) s.heap H locs) {ls : Array Slot} (hl : lv_has ls 7 [(4, .int (nI (6 * K))), (0, .ref b), (1, .ref (r 0)), (2, .ref (q 0)), (3, .ref o)]) (kk : zKK p l e s m below meth c b G d r q o K) : W p l e room_1 s m #[Value.ref b] below meth c H locs (zLc K N) (zLs K N) (lw_Z below #[Value.ref b] s) (F0 m 626 ls []) := by
  obtain ⟨hx, hb, hml, hown, hts, hXs, hbl⟩ := C0
  obtain ⟨hK, hZ, hLx⟩ := hE
  have hA : ∀ a : Nat, s.heap.size ≤ a → (fun a : Nat => s.heap.size ≤ a) a := fun _ h => h
  have hbA : ¬ (fun a : Nat => s.heap.size ≤ a) b := Nat.not_le.mpr hbl
  obtain ⟨A, mc, g, w, wm, th, f, rfl, hC, hMO, hGo⟩ := hw
  obtain ⟨E, hg, ag, mn, sd, tk, sg, sn, rfl, hM⟩ := hMO
  have hK5 : K ≤ 511 := by omega
  obtain ⟨a1, hz1⟩ : ∃ y, y = xs (6 * K + 1) := ⟨_, rfl⟩
  obtain ⟨a2, hz2⟩ : ∃ y, y = xs (6 * K + 2) := ⟨_, rfl⟩
  have hrm := zRk hGo hK5 (N2 := ((nHang N T a1 a2).1)) (T2 := ((nHang N T a1 a2).2)) (k := sK2 ((sIx a1 9) && (sIx a2 8)) ((sMay N T a1) && !decide (N 2 = 40))) (fun hk => (g_hang hGo hk))
  refine lv_aload_n hx hb dL_law_626 rfl (lv_at hl 2 rfl) ?_
  refine z_arg hx hb hXs hbl hbA hS (k := 1) (lv_at hl 1 rfl) (lv_at hl 0 rfl) (by decide) (by omega) hL hz1 dL_law_627 dL_law_628 dL_law_630 dL_law_631 dL_law_632 ?_
  refine z_arg hx hb hXs hbl hbA hS (k := 2) (lv_at hl 1 rfl) (lv_at hl 0 rfl) (by decide) (by omega) hL hz2 dL_law_633 dL_law_634 dL_law_636 dL_law_637 dL_law_638 ?_
  refine lv_aload_n hx hb dL_law_639 rfl (lv_at hl 4 rfl) ?_
  refine z_xi (G := G) (w := (w ++ ([(o, zOut G f)] : va_W))) (vx_runSX (hh := [(0, 10, 13, 13), (0, 10, 17, 17)]) (As := [.ref (r 0), .int a1, .int a2, .ref o]) (rest := []) ⟨hx, hb, hml, hown, hts⟩ (h_hang l hst G d r A mc g N T w K a1 a2 o f H.size hC hGo.1 hK5 ) (vx_cwSW 4 hts gL_law_L_hang rfl rfl rfl (by decide +kernel) ⟨Nat.le_of_ble_eq_true rfl, Nat.le_of_ble_eq_true rfl⟩) (z_hs hK (z_apL hP) (z_dL hD) hZ hLx hS hA) rfl rfl hl.1 rfl (lv_room (Nat.le_of_ble_eq_true rfl)) dL_law_640 hrm) hP hD hS hA (fun i E ce q9 Hz Lz hk hE hP hS hce hcv hcl => absurd hE (by simp)) (fun k5 w1 Hz Lz hq hP hD hS => ?_)
  obtain ⟨hk5, w2, f2, rfl, h0, h1⟩ := hq
  subst hk5
  refine lv_istore (lv' := [(5, .int (sK2 ((sIx a1 9) && (sIx a2 8)) ((sMay N T a1) && !decide (N 2 = 40)))), (4, .int (nI (6 * K))), (0, .ref b), (1, .ref (r 0)), (2, .ref (q 0)), (3, .ref o)]) hx hb dL_law_643 hl (by decide) rfl (fun ls hl => ?_)
  refine lv_aload_n hx hb dL_law_645 rfl (lv_at hl 4 rfl) ?_
  refine z_arg hx hb hXs hbl hbA hS (k := 1) (lv_at hl 2 rfl) (lv_at hl 1 rfl) (by decide) (by omega) hL hz1 dL_law_646 dL_law_647 dL_law_649 dL_law_650 dL_law_651 ?_
  refine z_arg hx hb hXs hbl hbA hS (k := 2) (lv_at hl 2 rfl) (lv_at hl 1 rfl) (by decide) (by omega) hL hz2 dL_law_652 dL_law_653 dL_law_655 dL_law_656 dL_law_657 ?_
  refine z_li (G := G) (w := mW G q th N T E hg ag mn sd tk sg sn) (wr := w2 ++ ([(o, zOut G f2)] : va_W)) (va_runV (As := [.int a1, .int a2]) (rest := []) ⟨hx, hb, hml, hown, hts⟩ (c_X7_hang l G q th N T E hg ag mn sd tk sg sn a1 a2 K Hz.size hGo.1 (by omega) hM ) (cwV 2 hts gL_law_X7_hang rfl rfl rfl (by decide +kernel) ⟨Nat.le_of_ble_eq_true rfl, Nat.le_of_ble_eq_true rfl⟩) (z_uv hK (z_apL (z_psw hP)) (ci := 8) (q0 := 0) rfl rfl (z_apL (z_psw hP)) (z_dL (z_dsw hD))) rfl rfl hl.1 rfl (lv_room (Nat.le_of_ble_eq_true rfl)) dL_law_658 hrm) (z_psw hP) (z_dsw hD) hS hA (fun rb wm1 Hz Lz hm hP hD hS => ?_)
  by_cases hk : sK2 ((sIx a1 9) && (sIx a2 8)) ((sMay N T a1) && !decide (N 2 = 40)) = 0
  · skip
    obtain ⟨hrb, E1, hg1, ag1, mn1, sd1, tk1, sg1, sn1, rfl, hM1⟩ := hm.1 hk
    obtain ⟨hf2, A2, mc2, g2, hC2⟩ := h0 hk
    subst hrb
    refine lv_istore (lv' := [(6, .int (nI (N 2))), (5, .int (sK2 ((sIx a1 9) && (sIx a2 8)) ((sMay N T a1) && !decide (N 2 = 40)))), (4, .int (nI (6 * K))), (0, .ref b), (1, .ref (r 0)), (2, .ref (q 0)), (3, .ref o)]) hx hb dL_law_661 hl (by decide) rfl (fun ls hl => ?_)
    refine lv_aload_n hx hb dL_law_663 rfl (lv_at hl 5 rfl) ?_
    refine z_csi (va_Run.run (va_runV (As := []) (rest := []) ⟨hx, hb, hml, hown, hts⟩ (c_X7_thrown l G q (sK2 ((sIx a1 9) && (sIx a2 8)) ((sMay N T a1) && !decide (N 2 = 40))) ((nHang N T a1 a2).1) ((nHang N T a1 a2).2) E1 hg1 ag1 mn1 sd1 tk1 sg1 sn1) (cwV 0 hts gL_law_X7_thrown rfl rfl rfl (by decide +kernel) ⟨Nat.le_of_ble_eq_true rfl, Nat.le_of_ble_eq_true rfl⟩) (z_pv hK (z_apL hP) (ci := 8) (q0 := 0) rfl rfl (z_apL hP)) rfl rfl hl.1 rfl (lv_room (Nat.le_of_ble_eq_true rfl)) dL_law_664 hrm)) (fun zt hzt => ?_)
    subst hzt
    refine lv_iload hx hb dL_law_667 (lv_at hl 1 rfl) ?_
    refine lv_icmp_eq (tgt := 674) hx hb dL_law_669 (by decide) (fun _ => ?_) (fun h => absurd rfl h)
    refine lv_iload hx hb dL_law_674 (lv_at hl 1 rfl) ?_
    refine lv_if_ne (tgt := 691) hx hb dL_law_676 (by decide) (fun h => absurd hk h) (fun _ => ?_)
    refine lv_aload_n hx hb dL_law_679 rfl (lv_at hl 6 rfl) ?_
    refine lv_iconst (v := 0) hx hb dL_law_680 (by decide) ?_
    refine va_lald hx hb hK (z_apR hP) w2.length 1 z_atx rfl (vp_in_nI (n := 0) (by decide) (by decide)) dL_law_681 ?_
    rw [show f2 (0 : Int32).toNatClampNeg = (nI (N 2) : Int32).toInt64 from hf2]
    refine lv_iload hx hb dL_law_682 (lv_at hl 0 rfl) ?_
    refine lv_i2l (v := (nI (N 2) : Int32).toInt64) hx hb dL_law_684 rfl ?_
    refine W.lcmp hx hb dL_law_685 ?_
    rw [zcmp rfl]
    refine lv_if_eq (tgt := 691) hx hb dL_law_686 (by decide) (fun _ => ?_) (fun h => absurd rfl h)
    refine lv_goto (tgt := 1915) hx hb dL_law_691 (by decide) ?_
    exact z_widen (zUp0 (K := K) (N := N) (N2 := ((nHang N T a1 a2).1)) (k := sK2 ((sIx a1 9) && (sIx a2 8)) ((sMay N T a1) && !decide (N 2 = 40))) hk (Nat.le_succ _)).1 (zUp0 (K := K) (N := N) (N2 := ((nHang N T a1 a2).1)) (k := sK2 ((sIx a1 9) && (sIx a2 8)) ((sMay N T a1) && !decide (N 2 = 40))) hk (Nat.le_succ _)).2 (kk ((nHang N T a1 a2).1) ((nHang N T a1 a2).2) _ _ _ _ ⟨_, _, _, _, _, _, _, rfl, hC2, ⟨E1, hg1, ag1, mn1, sd1, tk1, sg1, sn1, rfl, hM1⟩, (g_hang hGo hk)⟩ (z_psw hP) (z_dsw hD) hS (lv_sub hl [2, 3, 4, 5, 6] rfl))
  · skip
    obtain ⟨E1, hg1, ag1, mn1, sd1, tk1, sg1, sn1, rfl, hM1⟩ := hm.2 hk
    obtain ⟨A2, mc2, g2, hC2⟩ := h1 hk
    refine lv_istore (lv' := [(6, .int rb), (5, .int (sK2 ((sIx a1 9) && (sIx a2 8)) ((sMay N T a1) && !decide (N 2 = 40)))), (4, .int (nI (6 * K))), (0, .ref b), (1, .ref (r 0)), (2, .ref (q 0)), (3, .ref o)]) hx hb dL_law_661 hl (by decide) rfl (fun ls hl => ?_)
    refine lv_aload_n hx hb dL_law_663 rfl (lv_at hl 5 rfl) ?_
    refine z_csi (va_Run.run (va_runV (As := []) (rest := []) ⟨hx, hb, hml, hown, hts⟩ (c_X7_thrown l G q (sK2 ((sIx a1 9) && (sIx a2 8)) ((sMay N T a1) && !decide (N 2 = 40))) N T E1 hg1 ag1 mn1 sd1 tk1 sg1 sn1) (cwV 0 hts gL_law_X7_thrown rfl rfl rfl (by decide +kernel) ⟨Nat.le_of_ble_eq_true rfl, Nat.le_of_ble_eq_true rfl⟩) (z_pv hK (z_apL hP) (ci := 8) (q0 := 0) rfl rfl (z_apL hP)) rfl rfl hl.1 rfl (lv_room (Nat.le_of_ble_eq_true rfl)) dL_law_664 hrm)) (fun zt hzt => ?_)
    subst hzt
    refine lv_iload hx hb dL_law_667 (lv_at hl 1 rfl) ?_
    refine lv_icmp_eq (tgt := 674) hx hb dL_law_669 (by decide) (fun _ => ?_) (fun h => absurd rfl h)
    refine lv_iload hx hb dL_law_674 (lv_at hl 1 rfl) ?_
    refine lv_if_ne (tgt := 691) hx hb dL_law_676 (by decide) (fun _ => ?_) (fun h => absurd h hk)
    refine lv_goto (tgt := 1915) hx hb dL_law_691 (by decide) ?_
    exact z_widen (zUpn (K := K) (N := N) (a := N 1) (b := ((nHang N T a1 a2).1) 1) (k := sK2 ((sIx a1 9) && (sIx a2 8)) ((sMay N T a1) && !decide (N 2 = 40))) hk).1 (zUpn (K := K) (N := N) (a := N 1) (b := ((nHang N T a1 a2).1) 1) (k := sK2 ((sIx a1 9) && (sIx a2 8)) ((sMay N T a1) && !decide (N 2 = 40))) hk).2 (kk N T _ _ _ _ ⟨_, _, _, _, _, _, _, rfl, hC2, ⟨E1, hg1, ag1, mn1, sd1, tk1, sg1, sn1, rfl, hM1⟩, hGo.up⟩ (z_psw hP) (z_dsw hD) hS (lv_sub hl [2, 3, 4, 5, 6] rfl))
