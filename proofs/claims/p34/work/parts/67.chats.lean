set_option maxHeartbeats 4000000 in
set_option maxRecDepth 100000 in
theorem vchats_205 {p : Program} {l : Launch} {e : Env} {s : State} {m : MethodId} {below : List Frame} {meth : Method} {c : Code} {G : zG} {d : Nat} {r u : Nat → Nat} {act x y : Int32} {Aw : Nat → Prop} (hst : l.stackTraces = false) (hx : p.tables.exec = Jvm.exec) (hb : c.code = cL_chats) (hr : meth.sig.returnType = some .boolean) (hml : c.maxLocals = 17) (hown : s.vm.findClass RL = some m.cls) (hts : ∀ w ∈ wsL_chats, w.before ([.ref (r 0), .int act, .int x, .int y, .ref (u 0), .ref (u 7), .ref (u 8), .ref (u 9)] : List Value).toArray s = true) (hlocks : meth.locks = false) (hK : va_K G.1 vwCl (zT G.2) s) (hZ : zCe Aw d s s.heap) (hLx : zLx s) (hA : ∀ q : Nat, s.heap.size ≤ q → Aw q) {A : Nat → Nat} {mc : Nat → Int32} {g : Nat → Nat → Int32} {N : Nat → Nat} {T : Nat → Nat → Int32} {w : va_W} {E : Nat → Int64} {F : Nat → Nat → Int32} {K : Nat} (hC : sCQ G d r A mc g N T w) (hR : sLR N T E F) (hJ : sLJ N T K) (hK5 : K ≤ 400) (hh9 : N 1 ≤ 90 ∧ N 0 ≤ 1900) {jp : Nat} (mm jl j1 j2 : Nat) (hjp : jp < 9) (hmm : mm ≤ 2) (hjl : jl ≤ N 4) (hj1 : j1 < 8) (hj2 : j2 < 8) (hn7 : N 4 ≤ 7) {H : Heap} {locs : List Loc} (hP : va_P G.1 vwCl (([(u 0, .inl (G.2 1, 64, .inr (.inl E))), (u 1, .inl (G.2 0, 8, .inl (F 1))), (u 2, .inl (G.2 0, 3, .inl (F 2))), (u 3, .inl (G.2 0, 3, .inl (F 3))), (u 4, .inl (G.2 0, 40, .inl (F 4))), (u 5, .inl (G.2 0, 40, .inl (F 5))), (u 6, .inl (G.2 0, 9, .inl (F 6))), (u 7, .inl (G.2 0, 12, .inl (F 7))), (u 8, .inl (G.2 0, 12, .inl (F 8))), (u 9, .inl (G.2 0, 10, .inl (F 9)))] : va_W) ++ w) H) (hD : va_D Aw (([(u 0, .inl (G.2 1, 64, .inr (.inl E))), (u 1, .inl (G.2 0, 8, .inl (F 1))), (u 2, .inl (G.2 0, 3, .inl (F 2))), (u 3, .inl (G.2 0, 3, .inl (F 3))), (u 4, .inl (G.2 0, 40, .inl (F 4))), (u 5, .inl (G.2 0, 40, .inl (F 5))), (u 6, .inl (G.2 0, 9, .inl (F 6))), (u 7, .inl (G.2 0, 12, .inl (F 7))), (u 8, .inl (G.2 0, 12, .inl (F 8))), (u 9, .inl (G.2 0, 10, .inl (F 9)))] : va_W) ++ w)) (hS : va_S Aw s.heap H locs) {ls : Array Slot} (hl : lv_has ls 17 [(0, .ref (r 0)), (1, .int act), (2, .int x), (3, .int y), (4, .ref (u 0)), (5, .ref (u 7)), (6, .ref (u 8)), (7, .ref (u 9)), (8, .int (nI jp)), (9, .int (nI mm)), (10, .int (nI jl)), (11, .int (nI j1)), (12, .int (nI j2))]) : W p l e (headSpec wsL_chats ({ frames := 9, cells := 600, slots := 3600, locals := 219 })).room s m ([.ref (r 0), .int act, .int x, .int y, .ref (u 0), .ref (u 7), .ref (u 8), .ref (u 9)] : List Value).toArray below meth c H locs 10 60 (MQ below (va_Qi (fun (r1 : Int32) (wz : va_W) => r1 = 1 ∧ ∃ (N2 : Nat → Nat) (T2 : Nat → Nat → Int32) (E2 : Nat → Int64) (F2 : Nat → Nat → Int32) (w2 : va_W), wz = LW G u E2 F2 ++ w2 ∧ sCO G d r N2 T2 w2 ∧ sLR N2 T2 E2 F2 ∧ sLJ N2 T2 (K + 2)) (zB G Aw) Aw) ([.ref (r 0), .int act, .int x, .int y, .ref (u 0), .ref (u 7), .ref (u 8), .ref (u 9)] : List Value).toArray s 600 3600 Aw) (F0 m 205 ls []) := by
  have hQ := hR.q hJ
  obtain ⟨hg0, hg1, hg2, hg3, hg4, hg5, hg6, hg7, hg8⟩ := hR.2.2.2.2.2.2.2.2.2
  obtain ⟨⟨hb1, hb0, hb3, hb4, hb5⟩, hlv, hlm, hLH⟩ := id hJ.2
  obtain ⟨⟨hi0, hi2, hi3, hi4, hi5, hi6, hi1⟩, hiB, hiE, hiT, hiA, hiA0, hiM, hiK, hiK0, hiX⟩ := id hJ.1.1
  have hLG := hJ.1.2
  have hS0z : va_S Aw s.heap s.heap [] := va_S.rf
  refine lv_iconst (v := 1) hx hb dL_chats_205 (by decide) ?_
  refine lv_istore (lv' := [(13, .int 1), (0, .ref (r 0)), (1, .int act), (2, .int x), (3, .int y), (4, .ref (u 0)), (5, .ref (u 7)), (6, .ref (u 8)), (7, .ref (u 9)), (8, .int (nI jp)), (9, .int (nI mm)), (10, .int (nI jl)), (11, .int (nI j1)), (12, .int (nI j2))]) hx hb dL_chats_206 hl (by decide) rfl (fun ls hl => ?_)
  refine lv_iconst (v := 0) hx hb dL_chats_208 (by decide) ?_
  refine lv_istore (lv' := [(14, .int 0), (13, .int 1), (0, .ref (r 0)), (1, .int act), (2, .int x), (3, .int y), (4, .ref (u 0)), (5, .ref (u 7)), (6, .ref (u 8)), (7, .ref (u 9)), (8, .int (nI jp)), (9, .int (nI mm)), (10, .int (nI jl)), (11, .int (nI j1)), (12, .int (nI j2))]) hx hb dL_chats_209 hl (by decide) rfl (fun ls hl => ?_)
  have key_211 : ∀ (n i : Nat), i ≤ mm → mm < i + n → ∀ (Nk : Nat → Nat) (Tk Fk : Nat → Nat → Int32), sLR Nk Tk E Fk → sLJ Nk Tk (K + i) → Nk 4 = N 4 + i → ∀ (A : Nat → Nat) (mc : Nat → Int32) (g : Nat → Nat → Int32) (w : va_W), sCQ G d r A mc g Nk Tk w → ∀ (Hz : Heap) (Lz : List Loc), va_P G.1 vwCl (([(u 0, .inl (G.2 1, 64, .inr (.inl E))), (u 1, .inl (G.2 0, 8, .inl (Fk 1))), (u 2, .inl (G.2 0, 3, .inl (Fk 2))), (u 3, .inl (G.2 0, 3, .inl (Fk 3))), (u 4, .inl (G.2 0, 40, .inl (Fk 4))), (u 5, .inl (G.2 0, 40, .inl (Fk 5))), (u 6, .inl (G.2 0, 9, .inl (Fk 6))), (u 7, .inl (G.2 0, 12, .inl (Fk 7))), (u 8, .inl (G.2 0, 12, .inl (Fk 8))), (u 9, .inl (G.2 0, 10, .inl (Fk 9)))] : va_W) ++ w) Hz → va_D Aw (([(u 0, .inl (G.2 1, 64, .inr (.inl E))), (u 1, .inl (G.2 0, 8, .inl (Fk 1))), (u 2, .inl (G.2 0, 3, .inl (Fk 2))), (u 3, .inl (G.2 0, 3, .inl (Fk 3))), (u 4, .inl (G.2 0, 40, .inl (Fk 4))), (u 5, .inl (G.2 0, 40, .inl (Fk 5))), (u 6, .inl (G.2 0, 9, .inl (Fk 6))), (u 7, .inl (G.2 0, 12, .inl (Fk 7))), (u 8, .inl (G.2 0, 12, .inl (Fk 8))), (u 9, .inl (G.2 0, 10, .inl (Fk 9)))] : va_W) ++ w) → va_S Aw s.heap Hz Lz → ∀ ls : Array Slot, lv_has ls 17 [(0, .ref (r 0)), (1, .int act), (2, .int x), (3, .int y), (4, .ref (u 0)), (5, .ref (u 7)), (6, .ref (u 8)), (7, .ref (u 9)), (8, .int (nI jp)), (9, .int (nI mm)), (10, .int (nI jl)), (11, .int (nI j1)), (12, .int (nI j2)), (13, .int 1), (14, .int (nI i))] → W p l e (headSpec wsL_chats ({ frames := 9, cells := 600, slots := 3600, locals := 219 })).room s m ([.ref (r 0), .int act, .int x, .int y, .ref (u 0), .ref (u 7), .ref (u 8), .ref (u 9)] : List Value).toArray below meth c Hz Lz (50 + 8 * i) (300 + 200 * i) (MQ below (va_Qi (fun (r1 : Int32) (wz : va_W) => r1 = 1 ∧ ∃ (N2 : Nat → Nat) (T2 : Nat → Nat → Int32) (E2 : Nat → Int64) (F2 : Nat → Nat → Int32) (w2 : va_W), wz = LW G u E2 F2 ++ w2 ∧ sCO G d r N2 T2 w2 ∧ sLR N2 T2 E2 F2 ∧ sLJ N2 T2 (K + 2)) (zB G Aw) Aw) ([.ref (r 0), .int act, .int x, .int y, .ref (u 0), .ref (u 7), .ref (u 8), .ref (u 9)] : List Value).toArray s 600 3600 Aw) (F0 m 211 ls []) := by
    intro n
    induction n with
    | zero => intro i hi_a hi_b; exact absurd hi_b (by omega)
    | succ n ih =>
      intro i hil hin Nk Tk Fk hRk hJk hN4k A mc g w hC Hz Lz hP hD hS ls hl
      obtain ⟨Dk, hDk, hx9k⟩ := hRk.2.2.2.2.2.2.2.2.1
      obtain ⟨hk0, hk1, hk2, hk3, hk4, hk5, hk6, hk7, hk8⟩ := hRk.2.2.2.2.2.2.2.2.2
      obtain ⟨jz, hjz, hjz8⟩ : ∃ z, z = (if i = 0 then j1 else j2) ∧ z < 8 := ⟨_, rfl, by split <;> omega⟩
      refine lv_iload hx hb dL_chats_211 (lv_at hl 14 rfl) ?_
      refine lv_iload hx hb dL_chats_213 (lv_at hl 9 rfl) ?_
      refine lv_icmp_ge (tgt := 329) hx hb dL_chats_215 (by decide) (fun zc_1 => ?_) (fun zc_1 => ?_)
      · skip
        have zd_1 := Int32.not_lt.mpr zc_1
        have zhc := (nI_leI (by omega) (by omega)).mp zc_1
        refine lv_iload hx hb dL_chats_329 (lv_at hl 13 rfl) ?_
        exact z_widen (k := 600) (n := 3600) (show 50 + 8 * i ≤ 600 by omega) (show 300 + 200 * i ≤ 3600 by omega) (W.zret (v := 1) hx hb hr rfl (fun t ht hW => ⟨⟨1, (([(u 0, .inl (G.2 1, 64, .inr (.inl E))), (u 1, .inl (G.2 0, 8, .inl (Fk 1))), (u 2, .inl (G.2 0, 3, .inl (Fk 2))), (u 3, .inl (G.2 0, 3, .inl (Fk 3))), (u 4, .inl (G.2 0, 40, .inl (Fk 4))), (u 5, .inl (G.2 0, 40, .inl (Fk 5))), (u 6, .inl (G.2 0, 9, .inl (Fk 6))), (u 7, .inl (G.2 0, 12, .inl (Fk 7))), (u 8, .inl (G.2 0, 12, .inl (Fk 8))), (u 9, .inl (G.2 0, 10, .inl (Fk 9)))] : va_W) ++ w), rfl, ⟨rfl, Nk, Tk, E, Fk, w, rfl, ⟨A, mc, g, hC⟩, hRk, (hJk.mono (by omega))⟩, ⟨by rw [ht]; exact hP, hD⟩⟩, hS.F ht⟩) hS.2.2 dL_chats_331 hlocks)
      · skip
        have zd_1 := Int32.not_le.mp zc_1
        have hlt : i < mm := Nat.lt_of_not_le (fun z => zc_1 ((nI_leI (by omega) (by omega)).mpr z))
        refine lv_iload hx hb dL_chats_218 (lv_at hl 13 rfl) ?_
        refine lv_if_eq (tgt := 329) hx hb dL_chats_220 (by decide) (fun zc_2 => absurd zc_2 (by decide)) (fun _ => ?_)
        refine lv_iload hx hb dL_chats_223 (lv_at hl 14 rfl) ?_
        have cut_235 : W p l e (headSpec wsL_chats ({ frames := 9, cells := 600, slots := 3600, locals := 219 })).room s m ([.ref (r 0), .int act, .int x, .int y, .ref (u 0), .ref (u 7), .ref (u 8), .ref (u 9)] : List Value).toArray below meth c Hz Lz (50 + 8 * i) (300 + 200 * i) (MQ below (va_Qi (fun (r1 : Int32) (wz : va_W) => r1 = 1 ∧ ∃ (N2 : Nat → Nat) (T2 : Nat → Nat → Int32) (E2 : Nat → Int64) (F2 : Nat → Nat → Int32) (w2 : va_W), wz = LW G u E2 F2 ++ w2 ∧ sCO G d r N2 T2 w2 ∧ sLR N2 T2 E2 F2 ∧ sLJ N2 T2 (K + 2)) (zB G Aw) Aw) ([.ref (r 0), .int act, .int x, .int y, .ref (u 0), .ref (u 7), .ref (u 8), .ref (u 9)] : List Value).toArray s 600 3600 Aw) (F0 m 235 ls [.int (nI jz)]) := by
          refine lv_istore (lv' := [(15, .int (nI jz)), (0, .ref (r 0)), (1, .int act), (2, .int x), (3, .int y), (4, .ref (u 0)), (5, .ref (u 7)), (6, .ref (u 8)), (7, .ref (u 9)), (8, .int (nI jp)), (9, .int (nI mm)), (10, .int (nI jl)), (11, .int (nI j1)), (12, .int (nI j2)), (13, .int 1), (14, .int (nI i))]) hx hb dL_chats_235 hl (by decide) rfl (fun ls hl => ?_)
          refine lv_aload hx hb dL_chats_237 (lv_at hl 8 rfl) ?_
          refine lv_bipush (v := 9) hx hb dL_chats_239 (by decide) ?_
          refine va_iald hx hb hK (z_apL hP) 9 0 rfl rfl (vp_in_nI (n := 9) (by decide) (by decide)) dL_chats_241 ?_
          refine W.eq (g2 := F0 m 242 ls [.int (nI (sP8 Dk (Nk 4)))]) (by rw [show (Fk 9) (9 : Int32).toNatClampNeg = nI (sP8 Dk (Nk 4)) from hx9k]) ?_
          refine lv_iconst (v := 1) hx hb dL_chats_242 (by decide) ?_
          refine lv_iconst (v := 3) hx hb dL_chats_243 (by decide) ?_
          refine lv_iload hx hb dL_chats_244 (lv_at hl 11 rfl) ?_
          refine lv_iload hx hb dL_chats_246 (lv_at hl 15 rfl) ?_
          refine lv_iadd hx hb dL_chats_248 ?_
          refine W.eq (g2 := F0 m 249 ls [.int (nI (jl + i)), .int 3, .int 1, .int (nI (sP8 Dk (Nk 4)))]) (by first | (rw [nI_add]; done) | (rw [nI_add]; rfl)) ?_
          refine lv_imul hx hb dL_chats_249 ?_
          refine lv_ishl hx hb dL_chats_250 ?_
          refine W.eq (g2 := F0 m 251 ls [.int (nI (8 ^ (jl + i))), .int (nI (sP8 Dk (Nk 4)))]) (by first | (rw [z_shl1 (by omega)]; done) | (rw [z_shl1 (by omega)]; rfl)) ?_
          refine lv_iconst (v := 1) hx hb dL_chats_251 (by decide) ?_
          refine lv_isub hx hb dL_chats_252 ?_
          refine lv_iand hx hb dL_chats_253 ?_
          refine W.eq (g2 := F0 m 254 ls [.int (nI (sP8 Dk (jl + i)))]) (by first | (rw [z_mask hDk.1 (by omega) (by omega)]; done) | (rw [z_mask hDk.1 (by omega) (by omega)]; rfl)) ?_
          refine lv_istore (lv' := [(16, .int (nI (sP8 Dk (jl + i)))), (15, .int (nI jz)), (0, .ref (r 0)), (1, .int act), (2, .int x), (3, .int y), (4, .ref (u 0)), (5, .ref (u 7)), (6, .ref (u 8)), (7, .ref (u 9)), (8, .int (nI jp)), (9, .int (nI mm)), (10, .int (nI jl)), (11, .int (nI j1)), (12, .int (nI j2)), (13, .int 1), (14, .int (nI i))]) hx hb dL_chats_254 hl (by decide) rfl (fun ls hl => ?_)
          refine lv_aload hx hb dL_chats_256 (lv_at hl 9 rfl) ?_
          refine lv_bipush (v := 9) hx hb dL_chats_258 (by decide) ?_
          refine lv_iload hx hb dL_chats_260 (lv_at hl 0 rfl) ?_
          refine lv_iload hx hb dL_chats_262 (lv_at hl 1 rfl) ?_
          refine lv_iconst (v := 3) hx hb dL_chats_264 (by decide) ?_
          refine lv_iload hx hb dL_chats_265 (lv_at hl 12 rfl) ?_
          refine lv_iload hx hb dL_chats_267 (lv_at hl 16 rfl) ?_
          refine lv_iadd hx hb dL_chats_269 ?_
          refine W.eq (g2 := F0 m 270 ls [.int (nI (jl + i)), .int 3, .int (nI jz), .int (nI (sP8 Dk (jl + i))), .int 9, .ref (u 9)]) (by first | (rw [nI_add]; done) | (rw [nI_add]; rfl)) ?_
          refine lv_imul hx hb dL_chats_270 ?_
          refine lv_ishl hx hb dL_chats_271 ?_
          refine W.eq (g2 := F0 m 272 ls [.int (nI (jz * 8 ^ (jl + i))), .int (nI (sP8 Dk (jl + i))), .int 9, .ref (u 9)]) (by first | (rw [z_shlz hjz8 (by omega)]; done) | (rw [z_shlz hjz8 (by omega)]; rfl)) ?_
          refine lv_ior hx hb dL_chats_272 ?_
          refine W.eq (g2 := F0 m 273 ls [.int (nI (sP8 Dk (jl + i) + jz * 8 ^ (jl + i))), .int 9, .ref (u 9)]) (by first | (rw [z_or1 (sP8_lt hDk.1 _)]; done) | (rw [z_or1 (sP8_lt hDk.1 _)]; rfl)) ?_
          refine lv_aload hx hb dL_chats_273 (lv_at hl 9 rfl) ?_
          refine lv_bipush (v := 9) hx hb dL_chats_275 (by decide) ?_
          refine va_iald hx hb hK (z_apL hP) 9 0 rfl rfl (vp_in_nI (n := 9) (by decide) (by decide)) dL_chats_277 ?_
          refine W.eq (g2 := F0 m 278 ls [.int (nI (sP8 Dk (Nk 4))), .int (nI (sP8 Dk (jl + i) + jz * 8 ^ (jl + i))), .int 9, .ref (u 9)]) (by rw [show (Fk 9) (9 : Int32).toNatClampNeg = nI (sP8 Dk (Nk 4)) from hx9k]) ?_
          refine lv_iload hx hb dL_chats_278 (lv_at hl 0 rfl) ?_
          refine lv_isub hx hb dL_chats_280 ?_
          refine W.eq (g2 := F0 m 281 ls [.int (nI (sP8 Dk (Nk 4) - sP8 Dk (jl + i))), .int (nI (sP8 Dk (jl + i) + jz * 8 ^ (jl + i))), .int 9, .ref (u 9)]) (by first | (rw [pk_sub (sP8_le (by omega))]; done) | (rw [pk_sub (sP8_le (by omega))]; rfl)) ?_
          refine lv_iconst (v := 3) hx hb dL_chats_281 (by decide) ?_
          refine lv_ishl hx hb dL_chats_282 ?_
          refine W.eq (g2 := F0 m 283 ls [.int (nI ((sP8 Dk (Nk 4) - sP8 Dk (jl + i)) * 8)), .int (nI (sP8 Dk (jl + i) + jz * 8 ^ (jl + i))), .int 9, .ref (u 9)]) (by first | (rw [pk_shlN (3 &&& 31) 3 (by decide) (by have := sP8_top hDk.1 (show Nk 4 ≤ 9 by omega); omega)]; done) | (rw [pk_shlN (3 &&& 31) 3 (by decide) (by have := sP8_top hDk.1 (show Nk 4 ≤ 9 by omega); omega)]; rfl)) ?_
          refine lv_ior hx hb dL_chats_283 ?_
          refine W.eq (g2 := F0 m 284 ls [.int (nI (sP8 (sIz Dk (jl + i) jz) (Nk 4 + 1))), .int 9, .ref (u 9)]) (by first | (rw [z_ins hDk.1 hjz8 (by omega) (by omega)]; done) | (rw [z_ins hDk.1 hjz8 (by omega) (by omega)]; rfl)) ?_
          refine va_iast hx hb hK hP hD hS 9 0 rfl rfl (vp_in_nI (n := 9) (by decide) (by decide)) dL_chats_284 (fun Hz Lz hP hD hS => ?_)
          have hP : va_P G.1 vwCl (([(u 0, .inl (G.2 1, 64, .inr (.inl E))), (u 1, .inl (G.2 0, 8, .inl (Fk 1))), (u 2, .inl (G.2 0, 3, .inl (Fk 2))), (u 3, .inl (G.2 0, 3, .inl (Fk 3))), (u 4, .inl (G.2 0, 40, .inl (Fk 4))), (u 5, .inl (G.2 0, 40, .inl (Fk 5))), (u 6, .inl (G.2 0, 9, .inl (Fk 6))), (u 7, .inl (G.2 0, 12, .inl (Fk 7))), (u 8, .inl (G.2 0, 12, .inl (Fk 8))), (u 9, .inl (G.2 0, 10, .inl (upd (Fk 9) 9 (nI (sP8 (sIz Dk (jl + i) jz) (Nk 4 + 1))))))] : va_W) ++ w) Hz := hP
          have hD : va_D Aw (([(u 0, .inl (G.2 1, 64, .inr (.inl E))), (u 1, .inl (G.2 0, 8, .inl (Fk 1))), (u 2, .inl (G.2 0, 3, .inl (Fk 2))), (u 3, .inl (G.2 0, 3, .inl (Fk 3))), (u 4, .inl (G.2 0, 40, .inl (Fk 4))), (u 5, .inl (G.2 0, 40, .inl (Fk 5))), (u 6, .inl (G.2 0, 9, .inl (Fk 6))), (u 7, .inl (G.2 0, 12, .inl (Fk 7))), (u 8, .inl (G.2 0, 12, .inl (Fk 8))), (u 9, .inl (G.2 0, 10, .inl (upd (Fk 9) 9 (nI (sP8 (sIz Dk (jl + i) jz) (Nk 4 + 1))))))] : va_W) ++ w) := hD
          refine lv_aload hx hb dL_chats_285 (lv_at hl 9 rfl) ?_
          refine lv_bipush (v := 8) hx hb dL_chats_287 (by decide) ?_
          refine lv_dup2_11 hx hb dL_chats_289 rfl rfl ?_
          refine va_iald hx hb hK (z_apL hP) 9 0 rfl rfl (vp_in_nI (n := 8) (by decide) (by decide)) dL_chats_290 ?_
          refine W.eq (g2 := F0 m 291 ls [.int (nI (Nk 4)), .int 8, .ref (u 9)]) (by rw [show (upd (Fk 9) 9 (nI (sP8 (sIz Dk (jl + i) jz) (Nk 4 + 1)))) (8 : Int32).toNatClampNeg = nI (Nk 4) from hk8]) ?_
          refine lv_iconst (v := 1) hx hb dL_chats_291 (by decide) ?_
          refine lv_iadd hx hb dL_chats_292 ?_
          refine W.eq (g2 := F0 m 293 ls [.int (nI (Nk 4 + 1)), .int 8, .ref (u 9)]) (by first | (rw [nI_1]; done) | (rw [nI_1]; rfl)) ?_
          refine va_iast hx hb hK hP hD hS 9 0 rfl rfl (vp_in_nI (n := 8) (by decide) (by decide)) dL_chats_293 (fun Hz Lz hP hD hS => ?_)
          have hP : va_P G.1 vwCl (([(u 0, .inl (G.2 1, 64, .inr (.inl E))), (u 1, .inl (G.2 0, 8, .inl (Fk 1))), (u 2, .inl (G.2 0, 3, .inl (Fk 2))), (u 3, .inl (G.2 0, 3, .inl (Fk 3))), (u 4, .inl (G.2 0, 40, .inl (Fk 4))), (u 5, .inl (G.2 0, 40, .inl (Fk 5))), (u 6, .inl (G.2 0, 9, .inl (Fk 6))), (u 7, .inl (G.2 0, 12, .inl (Fk 7))), (u 8, .inl (G.2 0, 12, .inl (Fk 8))), (u 9, .inl (G.2 0, 10, .inl (upd (upd (Fk 9) 9 (nI (sP8 (sIz Dk (jl + i) jz) (Nk 4 + 1)))) 8 (nI (Nk 4 + 1)))))] : va_W) ++ w) Hz := hP
          have hD : va_D Aw (([(u 0, .inl (G.2 1, 64, .inr (.inl E))), (u 1, .inl (G.2 0, 8, .inl (Fk 1))), (u 2, .inl (G.2 0, 3, .inl (Fk 2))), (u 3, .inl (G.2 0, 3, .inl (Fk 3))), (u 4, .inl (G.2 0, 40, .inl (Fk 4))), (u 5, .inl (G.2 0, 40, .inl (Fk 5))), (u 6, .inl (G.2 0, 9, .inl (Fk 6))), (u 7, .inl (G.2 0, 12, .inl (Fk 7))), (u 8, .inl (G.2 0, 12, .inl (Fk 8))), (u 9, .inl (G.2 0, 10, .inl (upd (upd (Fk 9) 9 (nI (sP8 (sIz Dk (jl + i) jz) (Nk 4 + 1)))) 8 (nI (Nk 4 + 1)))))] : va_W) ++ w) := hD
          have hRn := sLR_ins (q := jl + i) (z := jz) hRk hDk hjz8 (by omega) (by omega)
          have hP : va_P G.1 vwCl (([(u 0, .inl (G.2 1, 64, .inr (.inl E))), (u 1, .inl (G.2 0, 8, .inl (Fk 1))), (u 2, .inl (G.2 0, 3, .inl (Fk 2))), (u 3, .inl (G.2 0, 3, .inl (Fk 3))), (u 4, .inl (G.2 0, 40, .inl (Fk 4))), (u 5, .inl (G.2 0, 40, .inl (Fk 5))), (u 6, .inl (G.2 0, 9, .inl (Fk 6))), (u 7, .inl (G.2 0, 12, .inl (Fk 7))), (u 8, .inl (G.2 0, 12, .inl (Fk 8))), (u 9, .inl (G.2 0, 10, .inl (upd (upd (Fk 9) 9 (nI (sP8 (sIz Dk (jl + i) jz) (Nk 4 + 1)))) 8 (nI (Nk 4 + 1)))))] : va_W) ++ w) Hz := hP
          have hD : va_D Aw (([(u 0, .inl (G.2 1, 64, .inr (.inl E))), (u 1, .inl (G.2 0, 8, .inl (Fk 1))), (u 2, .inl (G.2 0, 3, .inl (Fk 2))), (u 3, .inl (G.2 0, 3, .inl (Fk 3))), (u 4, .inl (G.2 0, 40, .inl (Fk 4))), (u 5, .inl (G.2 0, 40, .inl (Fk 5))), (u 6, .inl (G.2 0, 9, .inl (Fk 6))), (u 7, .inl (G.2 0, 12, .inl (Fk 7))), (u 8, .inl (G.2 0, 12, .inl (Fk 8))), (u 9, .inl (G.2 0, 10, .inl (upd (upd (Fk 9) 9 (nI (sP8 (sIz Dk (jl + i) jz) (Nk 4 + 1)))) 8 (nI (Nk 4 + 1)))))] : va_W) ++ w) := hD
          refine lv_aload_n hx hb dL_chats_294 rfl (lv_at hl 2 rfl) ?_
          refine lv_iload hx hb dL_chats_295 (lv_at hl 12 rfl) ?_
          refine lv_iload hx hb dL_chats_297 (lv_at hl 16 rfl) ?_
          refine lv_iadd hx hb dL_chats_299 ?_
          refine W.eq (g2 := F0 m 300 ls [.int (nI (jl + i)), .ref (r 0)]) (by first | (rw [nI_add]; done) | (rw [nI_add]; rfl)) ?_
          refine lv_iload hx hb dL_chats_300 (lv_at hl 1 rfl) ?_
          refine z_csi (va_Run.run (va_runS (As := [.int (nI jz)]) (rest := [.int (nI (jl + i)), .ref (r 0)]) ⟨hx, hb, hml, hown, hts⟩ (c_L_letter l G jz hjz8) (va_cwS 1 hts gL_chats_L_letter rfl rfl rfl (by decide +kernel) ⟨Nat.le_of_ble_eq_true rfl, Nat.le_of_ble_eq_true rfl⟩) (z_ps hK z_none) rfl rfl hl.1 rfl (lv_room (Nat.le_of_ble_eq_true rfl)) dL_chats_302 ⟨(show 50 + 8 * i + 0 ≤ 600 by omega), (show 300 + 200 * i + 0 ≤ 3600 by omega)⟩)) (fun zr_3 hzr_3 => ?_)
          subst hzr_3
          have hkz_305 : sK2 (sIn (nI (jl + i)) 0 (nI (Nk 4))) (!decide (Nk 4 = 40)) = 0 := (sK2_ok (show sIn (nI (jl + i)) 0 (nI (Nk 4)) = true from by rw [sIn, decide_eq_true (nI_pos' (by omega)), decide_eq_true (nI_le (by omega) (by omega))]; rfl) (by simp; omega))
          refine z_xR (G := G) (w := w) (c2 := 52 + 8 * i) (s2 := 312 + 200 * i) (vx_runSX (hh := [(0, 7, 10, 16), (0, 7, 16, 18)]) (As := [.ref (r 0), .int (nI (jl + i)), .int (zLt jz)]) (rest := []) ⟨hx, hb, hml, hown, hts⟩ (h_insert l hst G d r A mc g Nk Tk w (K + i) (nI (jl + i)) (zLt jz) Hz.size hC hJk.1.1 (by omega) (zLt_16 hjz8)) (vx_cwSW 3 hts gL_chats_L_insert rfl rfl rfl (by decide +kernel) ⟨Nat.le_of_ble_eq_true rfl, Nat.le_of_ble_eq_true rfl⟩) (z_hs hK (z_apR hP) (z_dR hD) hZ hLx hS hA) rfl rfl hl.1 rfl (lv_room (Nat.le_of_ble_eq_true rfl)) dL_chats_305 ⟨(show 50 + 8 * i + 2 ≤ 600 by omega), (show 300 + 200 * i + 12 ≤ 3600 by omega)⟩) hP hD hS hA (show 50 + 8 * i + 2 ≤ 52 + 8 * i by omega) (show 300 + 200 * i + 12 ≤ 312 + 200 * i by omega) (fun rz_4 zw_4 Hz Lz hq hP hD hS => ?_)
          obtain ⟨hr9, A, mc, g, hC⟩ := hq.1 hkz_305
          rw [hr9]
          refine lv_aload hx hb dL_chats_308 (lv_at hl 9 rfl) ?_
          refine lv_bipush (v := 8) hx hb dL_chats_310 (by decide) ?_
          refine va_iald hx hb hK (z_apL hP) 9 0 rfl rfl (vp_in_nI (n := 8) (by decide) (by decide)) dL_chats_312 ?_
          refine W.eq (g2 := F0 m 313 ls [.int (nI (Nk 4 + 1)), .int (nI (Nk 4 + 1))]) (by rw [show (upd (upd (Fk 9) 9 (nI (sP8 (sIz Dk (jl + i) jz) (Nk 4 + 1)))) 8 (nI (Nk 4 + 1))) (8 : Int32).toNatClampNeg = nI (Nk 4 + 1) from rfl]) ?_
          refine lv_icmp_ne (tgt := 320) hx hb dL_chats_313 (by decide) (fun zc_5 => absurd rfl zc_5) (fun _ => ?_)
          refine lv_iconst (v := 1) hx hb dL_chats_316 (by decide) ?_
          refine lv_goto (tgt := 321) hx hb dL_chats_317 (by decide) ?_
          refine lv_istore (lv' := [(13, .int 1), (16, .int (nI (sP8 Dk (jl + i)))), (15, .int (nI jz)), (0, .ref (r 0)), (1, .int act), (2, .int x), (3, .int y), (4, .ref (u 0)), (5, .ref (u 7)), (6, .ref (u 8)), (7, .ref (u 9)), (8, .int (nI jp)), (9, .int (nI mm)), (10, .int (nI jl)), (11, .int (nI j1)), (12, .int (nI j2)), (14, .int (nI i))]) hx hb dL_chats_321 hl (by decide) rfl (fun ls hl => ?_)
          refine lv_iinc (v := (nI (i + 1))) (lv' := [(14, .int (nI (i + 1))), (13, .int 1), (16, .int (nI (sP8 Dk (jl + i)))), (15, .int (nI jz)), (0, .ref (r 0)), (1, .int act), (2, .int x), (3, .int y), (4, .ref (u 0)), (5, .ref (u 7)), (6, .ref (u 8)), (7, .ref (u 9)), (8, .int (nI jp)), (9, .int (nI mm)), (10, .int (nI jl)), (11, .int (nI j1)), (12, .int (nI j2))]) hx hb dL_chats_323 hl (k := 16) rfl (by first | exact nI_1 _ | rfl) (by decide) rfl (fun ls hl => ?_)
          refine lv_goto (tgt := 211) hx hb dL_chats_326 (by decide) ?_
          have hl2 := lv_sub (l' := [(0, .ref (r 0)), (1, .int act), (2, .int x), (3, .int y), (4, .ref (u 0)), (5, .ref (u 7)), (6, .ref (u 8)), (7, .ref (u 9)), (8, .int (nI jp)), (9, .int (nI mm)), (10, .int (nI jl)), (11, .int (nI j1)), (12, .int (nI j2)), (13, .int 1), (14, .int (nI (i + 1)))]) hl [4, 5, 6, 7, 8, 9, 10, 11, 12, 13, 14, 15, 16, 1, 0] rfl
          exact z_widen (show 52 + 8 * i ≤ 50 + 8 * (i + 1) by omega) (show 312 + 200 * i ≤ 300 + 200 * (i + 1) by omega) (ih (i + 1) (by omega) (by omega) _ _ _ hRn (sLJ_ins hJk hjz8 (by omega) hkz_305) (by show Nk 4 + 1 = N 4 + (i + 1); omega) A mc g _ hC _ _ hP hD hS ls hl2)
        refine lv_if_ne (tgt := 233) hx hb dL_chats_225 (by decide) (fun zc_6 => ?_) (fun zc_6 => ?_)
        · skip
          have hiz : ¬ i = 0 := fun z => zc_6 (by rw [z]; rfl)
          refine lv_iload hx hb dL_chats_233 (lv_at hl 12 rfl) ?_
          exact W.eq (congrArg (fun z : Int32 => F0 m 235 ls [.int z]) (show (nI j2 : Int32) = nI jz from (by rw [hjz, if_neg hiz]))) cut_235
        · skip
          have hiz : i = 0 := (nI_eq (b := 0) (by omega) (by omega)).mp zc_6
          refine lv_iload hx hb dL_chats_228 (lv_at hl 11 rfl) ?_
          refine lv_goto (tgt := 235) hx hb dL_chats_230 (by decide) ?_
          exact W.eq (congrArg (fun z : Int32 => F0 m 235 ls [.int z]) (show (nI j1 : Int32) = nI jz from (by rw [hjz, if_pos hiz]))) cut_235
  exact z_widen (show 10 ≤ 50 + 8 * 0 by omega) (show 60 ≤ 300 + 200 * 0 by omega) (key_211 (mm + 1) 0 (Nat.zero_le _) (by omega) N T F hR hJ rfl A mc g _ hC _ _ hP hD hS ls (lv_sub hl [2, 3, 4, 5, 6, 7, 8, 9, 10, 11, 12, 13, 14, 1, 0] rfl))

set_option maxHeartbeats 4000000 in
set_option maxRecDepth 100000 in
theorem vchats_13 {p : Program} {l : Launch} {e : Env} {s : State} {m : MethodId} {below : List Frame} {meth : Method} {c : Code} {G : zG} {d : Nat} {r u : Nat → Nat} {act x y : Int32} {Aw : Nat → Prop} (hst : l.stackTraces = false) (hx : p.tables.exec = Jvm.exec) (hb : c.code = cL_chats) (hr : meth.sig.returnType = some .boolean) (hml : c.maxLocals = 17) (hown : s.vm.findClass RL = some m.cls) (hts : ∀ w ∈ wsL_chats, w.before ([.ref (r 0), .int act, .int x, .int y, .ref (u 0), .ref (u 7), .ref (u 8), .ref (u 9)] : List Value).toArray s = true) (hlocks : meth.locks = false) (hK : va_K G.1 vwCl (zT G.2) s) (hZ : zCe Aw d s s.heap) (hLx : zLx s) (hA : ∀ q : Nat, s.heap.size ≤ q → Aw q) {A : Nat → Nat} {mc : Nat → Int32} {g : Nat → Nat → Int32} {N : Nat → Nat} {T : Nat → Nat → Int32} {w : va_W} {E : Nat → Int64} {F : Nat → Nat → Int32} {K : Nat} (hC : sCQ G d r A mc g N T w) (hR : sLR N T E F) (hJ : sLJ N T K) (hK5 : K ≤ 400) (hh9 : N 1 ≤ 90 ∧ N 0 ≤ 1900) {jp : Nat} (hjp : jp < 9) {H : Heap} {locs : List Loc} (hP : va_P G.1 vwCl (([(u 0, .inl (G.2 1, 64, .inr (.inl E))), (u 1, .inl (G.2 0, 8, .inl (F 1))), (u 2, .inl (G.2 0, 3, .inl (F 2))), (u 3, .inl (G.2 0, 3, .inl (F 3))), (u 4, .inl (G.2 0, 40, .inl (F 4))), (u 5, .inl (G.2 0, 40, .inl (F 5))), (u 6, .inl (G.2 0, 9, .inl (F 6))), (u 7, .inl (G.2 0, 12, .inl (F 7))), (u 8, .inl (G.2 0, 12, .inl (F 8))), (u 9, .inl (G.2 0, 10, .inl (F 9)))] : va_W) ++ w) H) (hD : va_D Aw (([(u 0, .inl (G.2 1, 64, .inr (.inl E))), (u 1, .inl (G.2 0, 8, .inl (F 1))), (u 2, .inl (G.2 0, 3, .inl (F 2))), (u 3, .inl (G.2 0, 3, .inl (F 3))), (u 4, .inl (G.2 0, 40, .inl (F 4))), (u 5, .inl (G.2 0, 40, .inl (F 5))), (u 6, .inl (G.2 0, 9, .inl (F 6))), (u 7, .inl (G.2 0, 12, .inl (F 7))), (u 8, .inl (G.2 0, 12, .inl (F 8))), (u 9, .inl (G.2 0, 10, .inl (F 9)))] : va_W) ++ w)) (hS : va_S Aw s.heap H locs) {ls : Array Slot} (hl : lv_has ls 17 [(0, .ref (r 0)), (1, .int act), (2, .int x), (3, .int y), (4, .ref (u 0)), (5, .ref (u 7)), (6, .ref (u 8)), (7, .ref (u 9)), (8, .int (nI jp))]) : W p l e (headSpec wsL_chats ({ frames := 9, cells := 600, slots := 3600, locals := 219 })).room s m ([.ref (r 0), .int act, .int x, .int y, .ref (u 0), .ref (u 7), .ref (u 8), .ref (u 9)] : List Value).toArray below meth c H locs 0 0 (MQ below (va_Qi (fun (r1 : Int32) (wz : va_W) => r1 = 1 ∧ ∃ (N2 : Nat → Nat) (T2 : Nat → Nat → Int32) (E2 : Nat → Int64) (F2 : Nat → Nat → Int32) (w2 : va_W), wz = LW G u E2 F2 ++ w2 ∧ sCO G d r N2 T2 w2 ∧ sLR N2 T2 E2 F2 ∧ sLJ N2 T2 (K + 2)) (zB G Aw) Aw) ([.ref (r 0), .int act, .int x, .int y, .ref (u 0), .ref (u 7), .ref (u 8), .ref (u 9)] : List Value).toArray s 600 3600 Aw) (F0 m 13 ls []) := by
  have hQ := hR.q hJ
  obtain ⟨hg0, hg1, hg2, hg3, hg4, hg5, hg6, hg7, hg8⟩ := hR.2.2.2.2.2.2.2.2.2
  obtain ⟨⟨hb1, hb0, hb3, hb4, hb5⟩, hlv, hlm, hLH⟩ := id hJ.2
  obtain ⟨⟨hi0, hi2, hi3, hi4, hi5, hi6, hi1⟩, hiB, hiE, hiT, hiA, hiA0, hiM, hiK, hiK0, hiX⟩ := id hJ.1.1
  have hLG := hJ.1.2
  have hS0z : va_S Aw s.heap s.heap [] := va_S.rf
  refine lv_aload_n hx hb dL_chats_13 rfl (lv_at hl 0 rfl) ?_
  refine lv_iconst (v := (-1)) hx hb dL_chats_14 (by decide) ?_
  refine lv_bipush (v := 97) hx hb dL_chats_15 (by decide) ?_
  have hkz_17 : sK2 (sIn (-1 : Int32) 0 (nI (N 4))) (!decide (N 4 = 40)) = 1 := (sK2_1' (show sIn (-1) 0 (nI (N 4)) = false from by rw [sIn, decide_eq_false (show ¬ (0 : Int32) ≤ -1 by decide)]; rfl))
  refine z_xR (G := G) (w := w) (c2 := 2) (s2 := 12) (vx_runSX (hh := [(0, 7, 10, 16), (0, 7, 16, 18)]) (As := [.ref (r 0), .int (-1), .int 97]) (rest := []) ⟨hx, hb, hml, hown, hts⟩ (h_insert l hst G d r A mc g N T w K (-1 : Int32) (97 : Int32) H.size hC hJ.1.1 (by omega) ⟨97, by omega, rfl⟩) (vx_cwSW 3 hts gL_chats_L_insert rfl rfl rfl (by decide +kernel) ⟨Nat.le_of_ble_eq_true rfl, Nat.le_of_ble_eq_true rfl⟩) (z_hs hK (z_apR hP) (z_dR hD) hZ hLx hS hA) rfl rfl hl.1 rfl (lv_room (Nat.le_of_ble_eq_true rfl)) dL_chats_17 ⟨(show 0 + 2 ≤ 600 by omega), (show 0 + 12 ≤ 3600 by omega)⟩) hP hD hS hA (show 0 + 2 ≤ 2 by omega) (show 0 + 12 ≤ 12 by omega) (fun rz_1 zw_1 Hz Lz hq hP hD hS => ?_)
  obtain ⟨hr9, hw9⟩ := hq.2 (by rw [hkz_17]; decide)
  rw [hw9] at hP hD
  rw [hr9, show zCx [-7200, -7300] (sK2 (sIn (-1 : Int32) 0 (nI (N 4))) (!decide (N 4 = 40))) = (-7200) from by rw [hkz_17]; rfl]
  refine lv_sipush (v := (-7200)) hx hb dL_chats_20 (by decide) ?_
  refine lv_icmp_ne (tgt := 45) hx hb dL_chats_23 (by decide) (fun zc_2 => absurd zc_2 (by decide)) (fun _ => ?_)
  refine lv_aload_n hx hb dL_chats_26 rfl (lv_at hl 0 rfl) ?_
  refine lv_aload hx hb dL_chats_27 (lv_at hl 7 rfl) ?_
  refine lv_bipush (v := 8) hx hb dL_chats_29 (by decide) ?_
  refine va_iald hx hb hK (z_apL hP) 9 0 rfl rfl (vp_in_nI (n := 8) (by decide) (by decide)) dL_chats_31 ?_
  refine W.eq (g2 := F0 m 32 ls [.int (nI (N 4)), .ref (r 0)]) (by rw [show (F 9) (8 : Int32).toNatClampNeg = nI (N 4) from hg8]) ?_
  refine lv_iconst (v := 1) hx hb dL_chats_32 (by decide) ?_
  refine lv_iadd hx hb dL_chats_33 ?_
  refine W.eq (g2 := F0 m 34 ls [.int (nI (N 4 + 1)), .ref (r 0)]) (by first | (rw [nI_1]; done) | (rw [nI_1]; rfl)) ?_
  refine lv_bipush (v := 97) hx hb dL_chats_34 (by decide) ?_
  have hkz_36 : sK2 (sIn (nI (N 4 + 1)) 0 (nI (N 4))) (!decide (N 4 = 40)) = 1 := (sK2_1' (show sIn (nI (N 4 + 1)) 0 (nI (N 4)) = false from by rw [sIn, decide_eq_false (nI_ge (Nat.lt_succ_self _) (by omega)), Bool.and_false]))
  refine z_xR (G := G) (w := w) (c2 := 4) (s2 := 24) (vx_runSX (hh := [(0, 7, 10, 16), (0, 7, 16, 18)]) (As := [.ref (r 0), .int (nI (N 4 + 1)), .int 97]) (rest := []) ⟨hx, hb, hml, hown, hts⟩ (h_insert l hst G d r A mc g N T w K (nI (N 4 + 1)) (97 : Int32) Hz.size hC hJ.1.1 (by omega) ⟨97, by omega, rfl⟩) (vx_cwSW 3 hts gL_chats_L_insert rfl rfl rfl (by decide +kernel) ⟨Nat.le_of_ble_eq_true rfl, Nat.le_of_ble_eq_true rfl⟩) (z_hs hK (z_apR hP) (z_dR hD) hZ hLx hS hA) rfl rfl hl.1 rfl (lv_room (Nat.le_of_ble_eq_true rfl)) dL_chats_36 ⟨(show 2 + 2 ≤ 600 by omega), (show 12 + 12 ≤ 3600 by omega)⟩) hP hD hS hA (show 2 + 2 ≤ 4 by omega) (show 12 + 12 ≤ 24 by omega) (fun rz_3 zw_3 Hz Lz hq hP hD hS => ?_)
  obtain ⟨hr9, hw9⟩ := hq.2 (by rw [hkz_36]; decide)
  rw [hw9] at hP hD
  rw [hr9, show zCx [-7200, -7300] (sK2 (sIn (nI (N 4 + 1)) 0 (nI (N 4))) (!decide (N 4 = 40))) = (-7200) from by rw [hkz_36]; rfl]
  refine lv_sipush (v := (-7200)) hx hb dL_chats_39 (by decide) ?_
  refine lv_icmp_eq (tgt := 47) hx hb dL_chats_42 (by decide) (fun _ => ?_) (fun zc_4 => absurd zc_4 (by decide))
  refine lv_aload hx hb dL_chats_47 (lv_at hl 7 rfl) ?_
  refine lv_bipush (v := 8) hx hb dL_chats_49 (by decide) ?_
  refine va_iald hx hb hK (z_apL hP) 9 0 rfl rfl (vp_in_nI (n := 8) (by decide) (by decide)) dL_chats_51 ?_
  refine W.eq (g2 := F0 m 52 ls [.int (nI (N 4))]) (by rw [show (F 9) (8 : Int32).toNatClampNeg = nI (N 4) from hg8]) ?_
  refine lv_bipush (v := 7) hx hb dL_chats_52 (by decide) ?_
  refine lv_icmp_le (tgt := 91) hx hb dL_chats_54 (by decide) (fun zc_5 => ?_) (fun zc_5 => ?_)
  · skip
    have zd_5 := Int32.not_lt.mpr zc_5
    have hn7 : N 4 ≤ 7 := (nI_leI (a := N 4) (b := 7) (by omega) (by omega)).mp zc_5
    refine lv_iload_n hx hb dL_chats_91 rfl (lv_at hl 2 rfl) ?_
    refine lv_bipush (v := 96) hx hb dL_chats_92 (by decide) ?_
    refine lv_iand hx hb dL_chats_94 ?_
    refine lv_if_ne (tgt := 102) hx hb dL_chats_95 (by decide) (fun zc_6 => ?_) (fun zc_6 => ?_)
    · skip
      refine lv_iconst (v := 2) hx hb dL_chats_102 (by decide) ?_
      refine lv_istore (lv' := [(9, .int 2), (0, .ref (r 0)), (1, .int act), (2, .int x), (3, .int y), (4, .ref (u 0)), (5, .ref (u 7)), (6, .ref (u 8)), (7, .ref (u 9)), (8, .int (nI jp))]) hx hb dL_chats_103 hl (by decide) rfl (fun ls hl => ?_)
      refine lv_iload_n hx hb dL_chats_105 rfl (lv_at hl 4 rfl) ?_
      refine lv_bipush (v := 6) hx hb dL_chats_106 (by decide) ?_
      refine lv_iand hx hb dL_chats_108 ?_
      refine lv_if_ne (tgt := 128) hx hb dL_chats_109 (by decide) (fun zc_7 => ?_) (fun zc_7 => ?_)
      · skip
        refine lv_aload hx hb dL_chats_128 (lv_at hl 8 rfl) ?_
        refine lv_bipush (v := 8) hx hb dL_chats_130 (by decide) ?_
        refine va_iald hx hb hK (z_apL hP) 9 0 rfl rfl (vp_in_nI (n := 8) (by decide) (by decide)) dL_chats_132 ?_
        refine W.eq (g2 := F0 m 133 ls [.int (nI (N 4))]) (by rw [show (F 9) (8 : Int32).toNatClampNeg = nI (N 4) from hg8]) ?_
        refine lv_istore (lv' := [(10, .int (nI (N 4))), (9, .int 2), (0, .ref (r 0)), (1, .int act), (2, .int x), (3, .int y), (4, .ref (u 0)), (5, .ref (u 7)), (6, .ref (u 8)), (7, .ref (u 9)), (8, .int (nI jp))]) hx hb dL_chats_133 hl (by decide) rfl (fun ls hl => ?_)
        refine lv_iload hx hb dL_chats_135 (lv_at hl 1 rfl) ?_
        refine lv_iconst (v := 1) hx hb dL_chats_137 (by decide) ?_
        refine lv_icmp_ne (tgt := 153) hx hb dL_chats_138 (by decide) (fun _ => ?_) (fun zc_8 => absurd zc_8 (by decide))
        refine lv_iload_n hx hb dL_chats_153 rfl (lv_at hl 4 rfl) ?_
        refine lv_sipush (v := 384) hx hb dL_chats_154 (by decide) ?_
        refine lv_iand hx hb dL_chats_157 ?_
        refine lv_if_ne (tgt := 165) hx hb dL_chats_158 (by decide) (fun zc_9 => ?_) (fun zc_9 => ?_)
        · skip
          refine lv_iconst (v := 0) hx hb dL_chats_165 (by decide) ?_
          refine lv_istore (lv' := [(11, .int 0), (10, .int (nI (N 4))), (9, .int 2), (0, .ref (r 0)), (1, .int act), (2, .int x), (3, .int y), (4, .ref (u 0)), (5, .ref (u 7)), (6, .ref (u 8)), (7, .ref (u 9)), (8, .int (nI jp))]) hx hb dL_chats_166 hl (by decide) rfl (fun ls hl => ?_)
          refine lv_iload hx hb dL_chats_168 (lv_at hl 0 rfl) ?_
          refine lv_iconst (v := 5) hx hb dL_chats_170 (by decide) ?_
          refine lv_icmp_ne (tgt := 179) hx hb dL_chats_171 (by decide) (fun _ => ?_) (fun zc_10 => absurd zc_10 (by decide))
          refine lv_iload_n hx hb dL_chats_179 rfl (lv_at hl 6 rfl) ?_
          refine lv_bipush (v := 7) hx hb dL_chats_180 (by decide) ?_
          refine lv_ishr hx hb dL_chats_182 ?_
          refine lv_iconst (v := 4) hx hb dL_chats_183 (by decide) ?_
          refine z_csi (va_Run.run (va_runS (As := [.int (y >>> (7 &&& 31)), .int 4]) (rest := []) ⟨hx, hb, hml, hown, hts⟩ (c_L_low l G (y >>> (7 &&& 31)) 4 (by omega) (by omega)) (va_cwS 2 hts gL_chats_L_low rfl rfl rfl (by decide +kernel) ⟨Nat.le_of_ble_eq_true rfl, Nat.le_of_ble_eq_true rfl⟩) (z_ps hK z_none) rfl rfl hl.1 rfl (lv_room (Nat.le_of_ble_eq_true rfl)) dL_chats_184 ⟨(show 4 + 0 ≤ 600 by omega), (show 24 + 0 ≤ 3600 by omega)⟩)) (fun zr_11 hzr_11 => ?_)
          obtain ⟨jb, hjb, rfl⟩ := hzr_11
          refine lv_if_ne (tgt := 195) hx hb dL_chats_187 (by decide) (fun zc_12 => ?_) (fun zc_12 => ?_)
          · skip
            refine lv_iload_n hx hb dL_chats_195 rfl (lv_at hl 6 rfl) ?_
            refine lv_bipush (v := 7) hx hb dL_chats_196 (by decide) ?_
            refine lv_ishr hx hb dL_chats_198 ?_
            refine lv_iconst (v := 4) hx hb dL_chats_199 (by decide) ?_
            refine z_csi (va_Run.run (va_runS (As := [.int (y >>> (7 &&& 31)), .int 4]) (rest := []) ⟨hx, hb, hml, hown, hts⟩ (c_L_low l G (y >>> (7 &&& 31)) 4 (by omega) (by omega)) (va_cwS 2 hts gL_chats_L_low rfl rfl rfl (by decide +kernel) ⟨Nat.le_of_ble_eq_true rfl, Nat.le_of_ble_eq_true rfl⟩) (z_ps hK z_none) rfl rfl hl.1 rfl (lv_room (Nat.le_of_ble_eq_true rfl)) dL_chats_200 ⟨(show 4 + 0 ≤ 600 by omega), (show 24 + 0 ≤ 3600 by omega)⟩)) (fun zr_13 hzr_13 => ?_)
            obtain ⟨jc, hjc, rfl⟩ := hzr_13
            refine lv_istore (lv' := [(12, .int (nI jc)), (11, .int 0), (10, .int (nI (N 4))), (9, .int 2), (0, .ref (r 0)), (1, .int act), (2, .int x), (3, .int y), (4, .ref (u 0)), (5, .ref (u 7)), (6, .ref (u 8)), (7, .ref (u 9)), (8, .int (nI jp))]) hx hb dL_chats_203 hl (by decide) rfl (fun ls hl => ?_)
            exact z_widen (show 4 ≤ 10 by omega) (show 24 ≤ 60 by omega) (vchats_205 hst hx hb hr hml hown hts hlocks hK hZ hLx hA hC hR hJ hK5 hh9 2 (N 4) 0 jc hjp (by omega) (by omega) (by omega) (by omega) hn7 hP hD hS (lv_sub hl [4, 5, 6, 7, 8, 9, 10, 11, 12, 3, 2, 1, 0] rfl))
          · skip
            refine lv_bipush (v := 7) hx hb dL_chats_190 (by decide) ?_
            refine lv_goto (tgt := 203) hx hb dL_chats_192 (by decide) ?_
            refine lv_istore (lv' := [(12, .int 7), (11, .int 0), (10, .int (nI (N 4))), (9, .int 2), (0, .ref (r 0)), (1, .int act), (2, .int x), (3, .int y), (4, .ref (u 0)), (5, .ref (u 7)), (6, .ref (u 8)), (7, .ref (u 9)), (8, .int (nI jp))]) hx hb dL_chats_203 hl (by decide) rfl (fun ls hl => ?_)
            exact z_widen (show 4 ≤ 10 by omega) (show 24 ≤ 60 by omega) (vchats_205 hst hx hb hr hml hown hts hlocks hK hZ hLx hA hC hR hJ hK5 hh9 2 (N 4) 0 7 hjp (by omega) (by omega) (by omega) (by omega) hn7 hP hD hS (lv_sub hl [4, 5, 6, 7, 8, 9, 10, 11, 12, 3, 2, 1, 0] rfl))
        · skip
          refine lv_iconst (v := 5) hx hb dL_chats_161 (by decide) ?_
          refine lv_goto (tgt := 166) hx hb dL_chats_162 (by decide) ?_
          refine lv_istore (lv' := [(11, .int 5), (10, .int (nI (N 4))), (9, .int 2), (0, .ref (r 0)), (1, .int act), (2, .int x), (3, .int y), (4, .ref (u 0)), (5, .ref (u 7)), (6, .ref (u 8)), (7, .ref (u 9)), (8, .int (nI jp))]) hx hb dL_chats_166 hl (by decide) rfl (fun ls hl => ?_)
          refine lv_iload hx hb dL_chats_168 (lv_at hl 0 rfl) ?_
          refine lv_iconst (v := 5) hx hb dL_chats_170 (by decide) ?_
          refine lv_icmp_ne (tgt := 179) hx hb dL_chats_171 (by decide) (fun zc_14 => absurd zc_14 (by decide)) (fun _ => ?_)
          refine lv_bipush (v := 6) hx hb dL_chats_174 (by decide) ?_
          refine lv_goto (tgt := 203) hx hb dL_chats_176 (by decide) ?_
          refine lv_istore (lv' := [(12, .int 6), (11, .int 5), (10, .int (nI (N 4))), (9, .int 2), (0, .ref (r 0)), (1, .int act), (2, .int x), (3, .int y), (4, .ref (u 0)), (5, .ref (u 7)), (6, .ref (u 8)), (7, .ref (u 9)), (8, .int (nI jp))]) hx hb dL_chats_203 hl (by decide) rfl (fun ls hl => ?_)
          exact z_widen (show 4 ≤ 10 by omega) (show 24 ≤ 60 by omega) (vchats_205 hst hx hb hr hml hown hts hlocks hK hZ hLx hA hC hR hJ hK5 hh9 2 (N 4) 5 6 hjp (by omega) (by omega) (by omega) (by omega) hn7 hP hD hS (lv_sub hl [4, 5, 6, 7, 8, 9, 10, 11, 12, 3, 2, 1, 0] rfl))
      · skip
        refine lv_iload_n hx hb dL_chats_112 rfl (lv_at hl 4 rfl) ?_
        refine lv_iconst (v := 3) hx hb dL_chats_113 (by decide) ?_
        refine lv_ishr hx hb dL_chats_114 ?_
        refine lv_aload hx hb dL_chats_115 (lv_at hl 8 rfl) ?_
        refine lv_bipush (v := 8) hx hb dL_chats_117 (by decide) ?_
        refine va_iald hx hb hK (z_apL hP) 9 0 rfl rfl (vp_in_nI (n := 8) (by decide) (by decide)) dL_chats_119 ?_
        refine W.eq (g2 := F0 m 120 ls [.int (nI (N 4)), .int (y >>> (3 &&& 31))]) (by rw [show (F 9) (8 : Int32).toNatClampNeg = nI (N 4) from hg8]) ?_
        refine lv_iconst (v := 1) hx hb dL_chats_120 (by decide) ?_
        refine lv_iadd hx hb dL_chats_121 ?_
        refine W.eq (g2 := F0 m 122 ls [.int (nI (N 4 + 1)), .int (y >>> (3 &&& 31))]) (by first | (rw [nI_1]; done) | (rw [nI_1]; rfl)) ?_
        refine z_csi (va_Run.run (va_runS (As := [.int (y >>> (3 &&& 31)), .int (nI (N 4 + 1))]) (rest := []) ⟨hx, hb, hml, hown, hts⟩ (c_L_low l G (y >>> (3 &&& 31)) (N 4 + 1) (by omega) (by omega)) (va_cwS 2 hts gL_chats_L_low rfl rfl rfl (by decide +kernel) ⟨Nat.le_of_ble_eq_true rfl, Nat.le_of_ble_eq_true rfl⟩) (z_ps hK z_none) rfl rfl hl.1 rfl (lv_room (Nat.le_of_ble_eq_true rfl)) dL_chats_122 ⟨(show 4 + 0 ≤ 600 by omega), (show 24 + 0 ≤ 3600 by omega)⟩)) (fun zr_15 hzr_15 => ?_)
        obtain ⟨jl, hjl, rfl⟩ := hzr_15
        refine lv_goto (tgt := 133) hx hb dL_chats_125 (by decide) ?_
        refine lv_istore (lv' := [(10, .int (nI jl)), (9, .int 2), (0, .ref (r 0)), (1, .int act), (2, .int x), (3, .int y), (4, .ref (u 0)), (5, .ref (u 7)), (6, .ref (u 8)), (7, .ref (u 9)), (8, .int (nI jp))]) hx hb dL_chats_133 hl (by decide) rfl (fun ls hl => ?_)
        refine lv_iload hx hb dL_chats_135 (lv_at hl 1 rfl) ?_
        refine lv_iconst (v := 1) hx hb dL_chats_137 (by decide) ?_
        refine lv_icmp_ne (tgt := 153) hx hb dL_chats_138 (by decide) (fun _ => ?_) (fun zc_16 => absurd zc_16 (by decide))
        refine lv_iload_n hx hb dL_chats_153 rfl (lv_at hl 4 rfl) ?_
        refine lv_sipush (v := 384) hx hb dL_chats_154 (by decide) ?_
        refine lv_iand hx hb dL_chats_157 ?_
        refine lv_if_ne (tgt := 165) hx hb dL_chats_158 (by decide) (fun zc_17 => ?_) (fun zc_17 => ?_)
        · skip
          refine lv_iconst (v := 0) hx hb dL_chats_165 (by decide) ?_
          refine lv_istore (lv' := [(11, .int 0), (10, .int (nI jl)), (9, .int 2), (0, .ref (r 0)), (1, .int act), (2, .int x), (3, .int y), (4, .ref (u 0)), (5, .ref (u 7)), (6, .ref (u 8)), (7, .ref (u 9)), (8, .int (nI jp))]) hx hb dL_chats_166 hl (by decide) rfl (fun ls hl => ?_)
          refine lv_iload hx hb dL_chats_168 (lv_at hl 0 rfl) ?_
          refine lv_iconst (v := 5) hx hb dL_chats_170 (by decide) ?_
          refine lv_icmp_ne (tgt := 179) hx hb dL_chats_171 (by decide) (fun _ => ?_) (fun zc_18 => absurd zc_18 (by decide))
          refine lv_iload_n hx hb dL_chats_179 rfl (lv_at hl 6 rfl) ?_
          refine lv_bipush (v := 7) hx hb dL_chats_180 (by decide) ?_
          refine lv_ishr hx hb dL_chats_182 ?_
          refine lv_iconst (v := 4) hx hb dL_chats_183 (by decide) ?_
          refine z_csi (va_Run.run (va_runS (As := [.int (y >>> (7 &&& 31)), .int 4]) (rest := []) ⟨hx, hb, hml, hown, hts⟩ (c_L_low l G (y >>> (7 &&& 31)) 4 (by omega) (by omega)) (va_cwS 2 hts gL_chats_L_low rfl rfl rfl (by decide +kernel) ⟨Nat.le_of_ble_eq_true rfl, Nat.le_of_ble_eq_true rfl⟩) (z_ps hK z_none) rfl rfl hl.1 rfl (lv_room (Nat.le_of_ble_eq_true rfl)) dL_chats_184 ⟨(show 4 + 0 ≤ 600 by omega), (show 24 + 0 ≤ 3600 by omega)⟩)) (fun zr_19 hzr_19 => ?_)
          obtain ⟨jb, hjb, rfl⟩ := hzr_19
          refine lv_if_ne (tgt := 195) hx hb dL_chats_187 (by decide) (fun zc_20 => ?_) (fun zc_20 => ?_)
          · skip
            refine lv_iload_n hx hb dL_chats_195 rfl (lv_at hl 6 rfl) ?_
            refine lv_bipush (v := 7) hx hb dL_chats_196 (by decide) ?_
            refine lv_ishr hx hb dL_chats_198 ?_
            refine lv_iconst (v := 4) hx hb dL_chats_199 (by decide) ?_
            refine z_csi (va_Run.run (va_runS (As := [.int (y >>> (7 &&& 31)), .int 4]) (rest := []) ⟨hx, hb, hml, hown, hts⟩ (c_L_low l G (y >>> (7 &&& 31)) 4 (by omega) (by omega)) (va_cwS 2 hts gL_chats_L_low rfl rfl rfl (by decide +kernel) ⟨Nat.le_of_ble_eq_true rfl, Nat.le_of_ble_eq_true rfl⟩) (z_ps hK z_none) rfl rfl hl.1 rfl (lv_room (Nat.le_of_ble_eq_true rfl)) dL_chats_200 ⟨(show 4 + 0 ≤ 600 by omega), (show 24 + 0 ≤ 3600 by omega)⟩)) (fun zr_21 hzr_21 => ?_)
            obtain ⟨jc, hjc, rfl⟩ := hzr_21
            refine lv_istore (lv' := [(12, .int (nI jc)), (11, .int 0), (10, .int (nI jl)), (9, .int 2), (0, .ref (r 0)), (1, .int act), (2, .int x), (3, .int y), (4, .ref (u 0)), (5, .ref (u 7)), (6, .ref (u 8)), (7, .ref (u 9)), (8, .int (nI jp))]) hx hb dL_chats_203 hl (by decide) rfl (fun ls hl => ?_)
            exact z_widen (show 4 ≤ 10 by omega) (show 24 ≤ 60 by omega) (vchats_205 hst hx hb hr hml hown hts hlocks hK hZ hLx hA hC hR hJ hK5 hh9 2 jl 0 jc hjp (by omega) (by omega) (by omega) (by omega) hn7 hP hD hS (lv_sub hl [4, 5, 6, 7, 8, 9, 10, 11, 12, 3, 2, 1, 0] rfl))
          · skip
            refine lv_bipush (v := 7) hx hb dL_chats_190 (by decide) ?_
            refine lv_goto (tgt := 203) hx hb dL_chats_192 (by decide) ?_
            refine lv_istore (lv' := [(12, .int 7), (11, .int 0), (10, .int (nI jl)), (9, .int 2), (0, .ref (r 0)), (1, .int act), (2, .int x), (3, .int y), (4, .ref (u 0)), (5, .ref (u 7)), (6, .ref (u 8)), (7, .ref (u 9)), (8, .int (nI jp))]) hx hb dL_chats_203 hl (by decide) rfl (fun ls hl => ?_)
            exact z_widen (show 4 ≤ 10 by omega) (show 24 ≤ 60 by omega) (vchats_205 hst hx hb hr hml hown hts hlocks hK hZ hLx hA hC hR hJ hK5 hh9 2 jl 0 7 hjp (by omega) (by omega) (by omega) (by omega) hn7 hP hD hS (lv_sub hl [4, 5, 6, 7, 8, 9, 10, 11, 12, 3, 2, 1, 0] rfl))
        · skip
          refine lv_iconst (v := 5) hx hb dL_chats_161 (by decide) ?_
          refine lv_goto (tgt := 166) hx hb dL_chats_162 (by decide) ?_
          refine lv_istore (lv' := [(11, .int 5), (10, .int (nI jl)), (9, .int 2), (0, .ref (r 0)), (1, .int act), (2, .int x), (3, .int y), (4, .ref (u 0)), (5, .ref (u 7)), (6, .ref (u 8)), (7, .ref (u 9)), (8, .int (nI jp))]) hx hb dL_chats_166 hl (by decide) rfl (fun ls hl => ?_)
          refine lv_iload hx hb dL_chats_168 (lv_at hl 0 rfl) ?_
          refine lv_iconst (v := 5) hx hb dL_chats_170 (by decide) ?_
          refine lv_icmp_ne (tgt := 179) hx hb dL_chats_171 (by decide) (fun zc_22 => absurd zc_22 (by decide)) (fun _ => ?_)
          refine lv_bipush (v := 6) hx hb dL_chats_174 (by decide) ?_
          refine lv_goto (tgt := 203) hx hb dL_chats_176 (by decide) ?_
          refine lv_istore (lv' := [(12, .int 6), (11, .int 5), (10, .int (nI jl)), (9, .int 2), (0, .ref (r 0)), (1, .int act), (2, .int x), (3, .int y), (4, .ref (u 0)), (5, .ref (u 7)), (6, .ref (u 8)), (7, .ref (u 9)), (8, .int (nI jp))]) hx hb dL_chats_203 hl (by decide) rfl (fun ls hl => ?_)
          exact z_widen (show 4 ≤ 10 by omega) (show 24 ≤ 60 by omega) (vchats_205 hst hx hb hr hml hown hts hlocks hK hZ hLx hA hC hR hJ hK5 hh9 2 jl 5 6 hjp (by omega) (by omega) (by omega) (by omega) hn7 hP hD hS (lv_sub hl [4, 5, 6, 7, 8, 9, 10, 11, 12, 3, 2, 1, 0] rfl))
    · skip
      refine lv_iconst (v := 1) hx hb dL_chats_98 (by decide) ?_
      refine lv_goto (tgt := 103) hx hb dL_chats_99 (by decide) ?_
      refine lv_istore (lv' := [(9, .int 1), (0, .ref (r 0)), (1, .int act), (2, .int x), (3, .int y), (4, .ref (u 0)), (5, .ref (u 7)), (6, .ref (u 8)), (7, .ref (u 9)), (8, .int (nI jp))]) hx hb dL_chats_103 hl (by decide) rfl (fun ls hl => ?_)
      refine lv_iload_n hx hb dL_chats_105 rfl (lv_at hl 4 rfl) ?_
      refine lv_bipush (v := 6) hx hb dL_chats_106 (by decide) ?_
      refine lv_iand hx hb dL_chats_108 ?_
      refine lv_if_ne (tgt := 128) hx hb dL_chats_109 (by decide) (fun zc_23 => ?_) (fun zc_23 => ?_)
      · skip
        refine lv_aload hx hb dL_chats_128 (lv_at hl 8 rfl) ?_
        refine lv_bipush (v := 8) hx hb dL_chats_130 (by decide) ?_
        refine va_iald hx hb hK (z_apL hP) 9 0 rfl rfl (vp_in_nI (n := 8) (by decide) (by decide)) dL_chats_132 ?_
        refine W.eq (g2 := F0 m 133 ls [.int (nI (N 4))]) (by rw [show (F 9) (8 : Int32).toNatClampNeg = nI (N 4) from hg8]) ?_
        refine lv_istore (lv' := [(10, .int (nI (N 4))), (9, .int 1), (0, .ref (r 0)), (1, .int act), (2, .int x), (3, .int y), (4, .ref (u 0)), (5, .ref (u 7)), (6, .ref (u 8)), (7, .ref (u 9)), (8, .int (nI jp))]) hx hb dL_chats_133 hl (by decide) rfl (fun ls hl => ?_)
        refine lv_iload hx hb dL_chats_135 (lv_at hl 1 rfl) ?_
        refine lv_iconst (v := 1) hx hb dL_chats_137 (by decide) ?_
        refine lv_icmp_ne (tgt := 153) hx hb dL_chats_138 (by decide) (fun zc_24 => absurd zc_24 (by decide)) (fun _ => ?_)
        refine lv_iload_n hx hb dL_chats_141 rfl (lv_at hl 4 rfl) ?_
        refine lv_bipush (v := 7) hx hb dL_chats_142 (by decide) ?_
        refine lv_ishr hx hb dL_chats_144 ?_
        refine lv_bipush (v := 8) hx hb dL_chats_145 (by decide) ?_
        refine z_csi (va_Run.run (va_runS (As := [.int (x >>> (7 &&& 31)), .int 8]) (rest := []) ⟨hx, hb, hml, hown, hts⟩ (c_L_low l G (x >>> (7 &&& 31)) 8 (by omega) (by omega)) (va_cwS 2 hts gL_chats_L_low rfl rfl rfl (by decide +kernel) ⟨Nat.le_of_ble_eq_true rfl, Nat.le_of_ble_eq_true rfl⟩) (z_ps hK z_none) rfl rfl hl.1 rfl (lv_room (Nat.le_of_ble_eq_true rfl)) dL_chats_147 ⟨(show 4 + 0 ≤ 600 by omega), (show 24 + 0 ≤ 3600 by omega)⟩)) (fun zr_25 hzr_25 => ?_)
        obtain ⟨ja, hja, rfl⟩ := hzr_25
        refine lv_goto (tgt := 166) hx hb dL_chats_150 (by decide) ?_
        refine lv_istore (lv' := [(11, .int (nI ja)), (10, .int (nI (N 4))), (9, .int 1), (0, .ref (r 0)), (1, .int act), (2, .int x), (3, .int y), (4, .ref (u 0)), (5, .ref (u 7)), (6, .ref (u 8)), (7, .ref (u 9)), (8, .int (nI jp))]) hx hb dL_chats_166 hl (by decide) rfl (fun ls hl => ?_)
        refine lv_iload hx hb dL_chats_168 (lv_at hl 0 rfl) ?_
        refine lv_iconst (v := 5) hx hb dL_chats_170 (by decide) ?_
        refine lv_icmp_ne (tgt := 179) hx hb dL_chats_171 (by decide) (fun zc_26 => ?_) (fun zc_26 => ?_)
        · skip
          refine lv_iload_n hx hb dL_chats_179 rfl (lv_at hl 6 rfl) ?_
          refine lv_bipush (v := 7) hx hb dL_chats_180 (by decide) ?_
          refine lv_ishr hx hb dL_chats_182 ?_
          refine lv_iconst (v := 4) hx hb dL_chats_183 (by decide) ?_
          refine z_csi (va_Run.run (va_runS (As := [.int (y >>> (7 &&& 31)), .int 4]) (rest := []) ⟨hx, hb, hml, hown, hts⟩ (c_L_low l G (y >>> (7 &&& 31)) 4 (by omega) (by omega)) (va_cwS 2 hts gL_chats_L_low rfl rfl rfl (by decide +kernel) ⟨Nat.le_of_ble_eq_true rfl, Nat.le_of_ble_eq_true rfl⟩) (z_ps hK z_none) rfl rfl hl.1 rfl (lv_room (Nat.le_of_ble_eq_true rfl)) dL_chats_184 ⟨(show 4 + 0 ≤ 600 by omega), (show 24 + 0 ≤ 3600 by omega)⟩)) (fun zr_27 hzr_27 => ?_)
          obtain ⟨jb, hjb, rfl⟩ := hzr_27
          refine lv_if_ne (tgt := 195) hx hb dL_chats_187 (by decide) (fun zc_28 => ?_) (fun zc_28 => ?_)
          · skip
            refine lv_iload_n hx hb dL_chats_195 rfl (lv_at hl 6 rfl) ?_
            refine lv_bipush (v := 7) hx hb dL_chats_196 (by decide) ?_
            refine lv_ishr hx hb dL_chats_198 ?_
            refine lv_iconst (v := 4) hx hb dL_chats_199 (by decide) ?_
            refine z_csi (va_Run.run (va_runS (As := [.int (y >>> (7 &&& 31)), .int 4]) (rest := []) ⟨hx, hb, hml, hown, hts⟩ (c_L_low l G (y >>> (7 &&& 31)) 4 (by omega) (by omega)) (va_cwS 2 hts gL_chats_L_low rfl rfl rfl (by decide +kernel) ⟨Nat.le_of_ble_eq_true rfl, Nat.le_of_ble_eq_true rfl⟩) (z_ps hK z_none) rfl rfl hl.1 rfl (lv_room (Nat.le_of_ble_eq_true rfl)) dL_chats_200 ⟨(show 4 + 0 ≤ 600 by omega), (show 24 + 0 ≤ 3600 by omega)⟩)) (fun zr_29 hzr_29 => ?_)
            obtain ⟨jc, hjc, rfl⟩ := hzr_29
            refine lv_istore (lv' := [(12, .int (nI jc)), (11, .int (nI ja)), (10, .int (nI (N 4))), (9, .int 1), (0, .ref (r 0)), (1, .int act), (2, .int x), (3, .int y), (4, .ref (u 0)), (5, .ref (u 7)), (6, .ref (u 8)), (7, .ref (u 9)), (8, .int (nI jp))]) hx hb dL_chats_203 hl (by decide) rfl (fun ls hl => ?_)
            exact z_widen (show 4 ≤ 10 by omega) (show 24 ≤ 60 by omega) (vchats_205 hst hx hb hr hml hown hts hlocks hK hZ hLx hA hC hR hJ hK5 hh9 1 (N 4) ja jc hjp (by omega) (by omega) (by omega) (by omega) hn7 hP hD hS (lv_sub hl [4, 5, 6, 7, 8, 9, 10, 11, 12, 3, 2, 1, 0] rfl))
          · skip
            refine lv_bipush (v := 7) hx hb dL_chats_190 (by decide) ?_
            refine lv_goto (tgt := 203) hx hb dL_chats_192 (by decide) ?_
            refine lv_istore (lv' := [(12, .int 7), (11, .int (nI ja)), (10, .int (nI (N 4))), (9, .int 1), (0, .ref (r 0)), (1, .int act), (2, .int x), (3, .int y), (4, .ref (u 0)), (5, .ref (u 7)), (6, .ref (u 8)), (7, .ref (u 9)), (8, .int (nI jp))]) hx hb dL_chats_203 hl (by decide) rfl (fun ls hl => ?_)
            exact z_widen (show 4 ≤ 10 by omega) (show 24 ≤ 60 by omega) (vchats_205 hst hx hb hr hml hown hts hlocks hK hZ hLx hA hC hR hJ hK5 hh9 1 (N 4) ja 7 hjp (by omega) (by omega) (by omega) (by omega) hn7 hP hD hS (lv_sub hl [4, 5, 6, 7, 8, 9, 10, 11, 12, 3, 2, 1, 0] rfl))
        · skip
          refine lv_bipush (v := 6) hx hb dL_chats_174 (by decide) ?_
          refine lv_goto (tgt := 203) hx hb dL_chats_176 (by decide) ?_
          refine lv_istore (lv' := [(12, .int 6), (11, .int (nI ja)), (10, .int (nI (N 4))), (9, .int 1), (0, .ref (r 0)), (1, .int act), (2, .int x), (3, .int y), (4, .ref (u 0)), (5, .ref (u 7)), (6, .ref (u 8)), (7, .ref (u 9)), (8, .int (nI jp))]) hx hb dL_chats_203 hl (by decide) rfl (fun ls hl => ?_)
          exact z_widen (show 4 ≤ 10 by omega) (show 24 ≤ 60 by omega) (vchats_205 hst hx hb hr hml hown hts hlocks hK hZ hLx hA hC hR hJ hK5 hh9 1 (N 4) ja 6 hjp (by omega) (by omega) (by omega) (by omega) hn7 hP hD hS (lv_sub hl [4, 5, 6, 7, 8, 9, 10, 11, 12, 3, 2, 1, 0] rfl))
      · skip
        refine lv_iload_n hx hb dL_chats_112 rfl (lv_at hl 4 rfl) ?_
        refine lv_iconst (v := 3) hx hb dL_chats_113 (by decide) ?_
        refine lv_ishr hx hb dL_chats_114 ?_
        refine lv_aload hx hb dL_chats_115 (lv_at hl 8 rfl) ?_
        refine lv_bipush (v := 8) hx hb dL_chats_117 (by decide) ?_
        refine va_iald hx hb hK (z_apL hP) 9 0 rfl rfl (vp_in_nI (n := 8) (by decide) (by decide)) dL_chats_119 ?_
        refine W.eq (g2 := F0 m 120 ls [.int (nI (N 4)), .int (y >>> (3 &&& 31))]) (by rw [show (F 9) (8 : Int32).toNatClampNeg = nI (N 4) from hg8]) ?_
        refine lv_iconst (v := 1) hx hb dL_chats_120 (by decide) ?_
        refine lv_iadd hx hb dL_chats_121 ?_
        refine W.eq (g2 := F0 m 122 ls [.int (nI (N 4 + 1)), .int (y >>> (3 &&& 31))]) (by first | (rw [nI_1]; done) | (rw [nI_1]; rfl)) ?_
        refine z_csi (va_Run.run (va_runS (As := [.int (y >>> (3 &&& 31)), .int (nI (N 4 + 1))]) (rest := []) ⟨hx, hb, hml, hown, hts⟩ (c_L_low l G (y >>> (3 &&& 31)) (N 4 + 1) (by omega) (by omega)) (va_cwS 2 hts gL_chats_L_low rfl rfl rfl (by decide +kernel) ⟨Nat.le_of_ble_eq_true rfl, Nat.le_of_ble_eq_true rfl⟩) (z_ps hK z_none) rfl rfl hl.1 rfl (lv_room (Nat.le_of_ble_eq_true rfl)) dL_chats_122 ⟨(show 4 + 0 ≤ 600 by omega), (show 24 + 0 ≤ 3600 by omega)⟩)) (fun zr_30 hzr_30 => ?_)
        obtain ⟨jl, hjl, rfl⟩ := hzr_30
        refine lv_goto (tgt := 133) hx hb dL_chats_125 (by decide) ?_
        refine lv_istore (lv' := [(10, .int (nI jl)), (9, .int 1), (0, .ref (r 0)), (1, .int act), (2, .int x), (3, .int y), (4, .ref (u 0)), (5, .ref (u 7)), (6, .ref (u 8)), (7, .ref (u 9)), (8, .int (nI jp))]) hx hb dL_chats_133 hl (by decide) rfl (fun ls hl => ?_)
        refine lv_iload hx hb dL_chats_135 (lv_at hl 1 rfl) ?_
        refine lv_iconst (v := 1) hx hb dL_chats_137 (by decide) ?_
        refine lv_icmp_ne (tgt := 153) hx hb dL_chats_138 (by decide) (fun zc_31 => absurd zc_31 (by decide)) (fun _ => ?_)
        refine lv_iload_n hx hb dL_chats_141 rfl (lv_at hl 4 rfl) ?_
        refine lv_bipush (v := 7) hx hb dL_chats_142 (by decide) ?_
        refine lv_ishr hx hb dL_chats_144 ?_
        refine lv_bipush (v := 8) hx hb dL_chats_145 (by decide) ?_
        refine z_csi (va_Run.run (va_runS (As := [.int (x >>> (7 &&& 31)), .int 8]) (rest := []) ⟨hx, hb, hml, hown, hts⟩ (c_L_low l G (x >>> (7 &&& 31)) 8 (by omega) (by omega)) (va_cwS 2 hts gL_chats_L_low rfl rfl rfl (by decide +kernel) ⟨Nat.le_of_ble_eq_true rfl, Nat.le_of_ble_eq_true rfl⟩) (z_ps hK z_none) rfl rfl hl.1 rfl (lv_room (Nat.le_of_ble_eq_true rfl)) dL_chats_147 ⟨(show 4 + 0 ≤ 600 by omega), (show 24 + 0 ≤ 3600 by omega)⟩)) (fun zr_32 hzr_32 => ?_)
        obtain ⟨ja, hja, rfl⟩ := hzr_32
        refine lv_goto (tgt := 166) hx hb dL_chats_150 (by decide) ?_
        refine lv_istore (lv' := [(11, .int (nI ja)), (10, .int (nI jl)), (9, .int 1), (0, .ref (r 0)), (1, .int act), (2, .int x), (3, .int y), (4, .ref (u 0)), (5, .ref (u 7)), (6, .ref (u 8)), (7, .ref (u 9)), (8, .int (nI jp))]) hx hb dL_chats_166 hl (by decide) rfl (fun ls hl => ?_)
        refine lv_iload hx hb dL_chats_168 (lv_at hl 0 rfl) ?_
        refine lv_iconst (v := 5) hx hb dL_chats_170 (by decide) ?_
        refine lv_icmp_ne (tgt := 179) hx hb dL_chats_171 (by decide) (fun zc_33 => ?_) (fun zc_33 => ?_)
        · skip
          refine lv_iload_n hx hb dL_chats_179 rfl (lv_at hl 6 rfl) ?_
          refine lv_bipush (v := 7) hx hb dL_chats_180 (by decide) ?_
          refine lv_ishr hx hb dL_chats_182 ?_
          refine lv_iconst (v := 4) hx hb dL_chats_183 (by decide) ?_
          refine z_csi (va_Run.run (va_runS (As := [.int (y >>> (7 &&& 31)), .int 4]) (rest := []) ⟨hx, hb, hml, hown, hts⟩ (c_L_low l G (y >>> (7 &&& 31)) 4 (by omega) (by omega)) (va_cwS 2 hts gL_chats_L_low rfl rfl rfl (by decide +kernel) ⟨Nat.le_of_ble_eq_true rfl, Nat.le_of_ble_eq_true rfl⟩) (z_ps hK z_none) rfl rfl hl.1 rfl (lv_room (Nat.le_of_ble_eq_true rfl)) dL_chats_184 ⟨(show 4 + 0 ≤ 600 by omega), (show 24 + 0 ≤ 3600 by omega)⟩)) (fun zr_34 hzr_34 => ?_)
          obtain ⟨jb, hjb, rfl⟩ := hzr_34
          refine lv_if_ne (tgt := 195) hx hb dL_chats_187 (by decide) (fun zc_35 => ?_) (fun zc_35 => ?_)
          · skip
            refine lv_iload_n hx hb dL_chats_195 rfl (lv_at hl 6 rfl) ?_
            refine lv_bipush (v := 7) hx hb dL_chats_196 (by decide) ?_
            refine lv_ishr hx hb dL_chats_198 ?_
            refine lv_iconst (v := 4) hx hb dL_chats_199 (by decide) ?_
            refine z_csi (va_Run.run (va_runS (As := [.int (y >>> (7 &&& 31)), .int 4]) (rest := []) ⟨hx, hb, hml, hown, hts⟩ (c_L_low l G (y >>> (7 &&& 31)) 4 (by omega) (by omega)) (va_cwS 2 hts gL_chats_L_low rfl rfl rfl (by decide +kernel) ⟨Nat.le_of_ble_eq_true rfl, Nat.le_of_ble_eq_true rfl⟩) (z_ps hK z_none) rfl rfl hl.1 rfl (lv_room (Nat.le_of_ble_eq_true rfl)) dL_chats_200 ⟨(show 4 + 0 ≤ 600 by omega), (show 24 + 0 ≤ 3600 by omega)⟩)) (fun zr_36 hzr_36 => ?_)
            obtain ⟨jc, hjc, rfl⟩ := hzr_36
            refine lv_istore (lv' := [(12, .int (nI jc)), (11, .int (nI ja)), (10, .int (nI jl)), (9, .int 1), (0, .ref (r 0)), (1, .int act), (2, .int x), (3, .int y), (4, .ref (u 0)), (5, .ref (u 7)), (6, .ref (u 8)), (7, .ref (u 9)), (8, .int (nI jp))]) hx hb dL_chats_203 hl (by decide) rfl (fun ls hl => ?_)
            exact z_widen (show 4 ≤ 10 by omega) (show 24 ≤ 60 by omega) (vchats_205 hst hx hb hr hml hown hts hlocks hK hZ hLx hA hC hR hJ hK5 hh9 1 jl ja jc hjp (by omega) (by omega) (by omega) (by omega) hn7 hP hD hS (lv_sub hl [4, 5, 6, 7, 8, 9, 10, 11, 12, 3, 2, 1, 0] rfl))
          · skip
            refine lv_bipush (v := 7) hx hb dL_chats_190 (by decide) ?_
            refine lv_goto (tgt := 203) hx hb dL_chats_192 (by decide) ?_
            refine lv_istore (lv' := [(12, .int 7), (11, .int (nI ja)), (10, .int (nI jl)), (9, .int 1), (0, .ref (r 0)), (1, .int act), (2, .int x), (3, .int y), (4, .ref (u 0)), (5, .ref (u 7)), (6, .ref (u 8)), (7, .ref (u 9)), (8, .int (nI jp))]) hx hb dL_chats_203 hl (by decide) rfl (fun ls hl => ?_)
            exact z_widen (show 4 ≤ 10 by omega) (show 24 ≤ 60 by omega) (vchats_205 hst hx hb hr hml hown hts hlocks hK hZ hLx hA hC hR hJ hK5 hh9 1 jl ja 7 hjp (by omega) (by omega) (by omega) (by omega) hn7 hP hD hS (lv_sub hl [4, 5, 6, 7, 8, 9, 10, 11, 12, 3, 2, 1, 0] rfl))
        · skip
          refine lv_bipush (v := 6) hx hb dL_chats_174 (by decide) ?_
          refine lv_goto (tgt := 203) hx hb dL_chats_176 (by decide) ?_
          refine lv_istore (lv' := [(12, .int 6), (11, .int (nI ja)), (10, .int (nI jl)), (9, .int 1), (0, .ref (r 0)), (1, .int act), (2, .int x), (3, .int y), (4, .ref (u 0)), (5, .ref (u 7)), (6, .ref (u 8)), (7, .ref (u 9)), (8, .int (nI jp))]) hx hb dL_chats_203 hl (by decide) rfl (fun ls hl => ?_)
          exact z_widen (show 4 ≤ 10 by omega) (show 24 ≤ 60 by omega) (vchats_205 hst hx hb hr hml hown hts hlocks hK hZ hLx hA hC hR hJ hK5 hh9 1 jl ja 6 hjp (by omega) (by omega) (by omega) (by omega) hn7 hP hD hS (lv_sub hl [4, 5, 6, 7, 8, 9, 10, 11, 12, 3, 2, 1, 0] rfl))
  · skip
    have zd_5 := Int32.not_le.mp zc_5
    skip
    refine lv_aload hx hb dL_chats_57 (lv_at hl 7 rfl) ?_
    refine lv_bipush (v := 8) hx hb dL_chats_59 (by decide) ?_
    refine va_iald hx hb hK (z_apL hP) 9 0 rfl rfl (vp_in_nI (n := 8) (by decide) (by decide)) dL_chats_61 ?_
    refine W.eq (g2 := F0 m 62 ls [.int (nI (N 4))]) (by rw [show (F 9) (8 : Int32).toNatClampNeg = nI (N 4) from hg8]) ?_
    refine lv_istore (lv' := [(9, .int (nI (N 4))), (0, .ref (r 0)), (1, .int act), (2, .int x), (3, .int y), (4, .ref (u 0)), (5, .ref (u 7)), (6, .ref (u 8)), (7, .ref (u 9)), (8, .int (nI jp))]) hx hb dL_chats_62 hl (by decide) rfl (fun ls hl => ?_)
    refine lv_aload hx hb dL_chats_64 (lv_at hl 8 rfl) ?_
    refine lv_bipush (v := 8) hx hb dL_chats_66 (by decide) ?_
    refine lv_iconst (v := 0) hx hb dL_chats_68 (by decide) ?_
    refine va_iast hx hb hK hP hD hS 9 0 rfl rfl (vp_in_nI (n := 8) (by decide) (by decide)) dL_chats_69 (fun Hz Lz hP hD hS => ?_)
    have hP : va_P G.1 vwCl (([(u 0, .inl (G.2 1, 64, .inr (.inl E))), (u 1, .inl (G.2 0, 8, .inl (F 1))), (u 2, .inl (G.2 0, 3, .inl (F 2))), (u 3, .inl (G.2 0, 3, .inl (F 3))), (u 4, .inl (G.2 0, 40, .inl (F 4))), (u 5, .inl (G.2 0, 40, .inl (F 5))), (u 6, .inl (G.2 0, 9, .inl (F 6))), (u 7, .inl (G.2 0, 12, .inl (F 7))), (u 8, .inl (G.2 0, 12, .inl (F 8))), (u 9, .inl (G.2 0, 10, .inl (upd (F 9) 8 0)))] : va_W) ++ w) Hz := hP
    have hD : va_D Aw (([(u 0, .inl (G.2 1, 64, .inr (.inl E))), (u 1, .inl (G.2 0, 8, .inl (F 1))), (u 2, .inl (G.2 0, 3, .inl (F 2))), (u 3, .inl (G.2 0, 3, .inl (F 3))), (u 4, .inl (G.2 0, 40, .inl (F 4))), (u 5, .inl (G.2 0, 40, .inl (F 5))), (u 6, .inl (G.2 0, 9, .inl (F 6))), (u 7, .inl (G.2 0, 12, .inl (F 7))), (u 8, .inl (G.2 0, 12, .inl (F 8))), (u 9, .inl (G.2 0, 10, .inl (upd (F 9) 8 0)))] : va_W) ++ w) := hD
    refine lv_aload hx hb dL_chats_70 (lv_at hl 8 rfl) ?_
    refine lv_bipush (v := 9) hx hb dL_chats_72 (by decide) ?_
    refine lv_iconst (v := 0) hx hb dL_chats_74 (by decide) ?_
    refine va_iast hx hb hK hP hD hS 9 0 rfl rfl (vp_in_nI (n := 9) (by decide) (by decide)) dL_chats_75 (fun Hz Lz hP hD hS => ?_)
    have hP : va_P G.1 vwCl (([(u 0, .inl (G.2 1, 64, .inr (.inl E))), (u 1, .inl (G.2 0, 8, .inl (F 1))), (u 2, .inl (G.2 0, 3, .inl (F 2))), (u 3, .inl (G.2 0, 3, .inl (F 3))), (u 4, .inl (G.2 0, 40, .inl (F 4))), (u 5, .inl (G.2 0, 40, .inl (F 5))), (u 6, .inl (G.2 0, 9, .inl (F 6))), (u 7, .inl (G.2 0, 12, .inl (F 7))), (u 8, .inl (G.2 0, 12, .inl (F 8))), (u 9, .inl (G.2 0, 10, .inl (upd (upd (F 9) 8 0) 9 0)))] : va_W) ++ w) Hz := hP
    have hD : va_D Aw (([(u 0, .inl (G.2 1, 64, .inr (.inl E))), (u 1, .inl (G.2 0, 8, .inl (F 1))), (u 2, .inl (G.2 0, 3, .inl (F 2))), (u 3, .inl (G.2 0, 3, .inl (F 3))), (u 4, .inl (G.2 0, 40, .inl (F 4))), (u 5, .inl (G.2 0, 40, .inl (F 5))), (u 6, .inl (G.2 0, 9, .inl (F 6))), (u 7, .inl (G.2 0, 12, .inl (F 7))), (u 8, .inl (G.2 0, 12, .inl (F 8))), (u 9, .inl (G.2 0, 10, .inl (upd (upd (F 9) 8 0) 9 0)))] : va_W) ++ w) := hD
    have hRn := sLR_clear hR
    have hP : va_P G.1 vwCl (([(u 0, .inl (G.2 1, 64, .inr (.inl E))), (u 1, .inl (G.2 0, 8, .inl (F 1))), (u 2, .inl (G.2 0, 3, .inl (F 2))), (u 3, .inl (G.2 0, 3, .inl (F 3))), (u 4, .inl (G.2 0, 40, .inl (F 4))), (u 5, .inl (G.2 0, 40, .inl (F 5))), (u 6, .inl (G.2 0, 9, .inl (F 6))), (u 7, .inl (G.2 0, 12, .inl (F 7))), (u 8, .inl (G.2 0, 12, .inl (F 8))), (u 9, .inl (G.2 0, 10, .inl (upd (upd (F 9) 8 0) 9 0)))] : va_W) ++ w) Hz := hP
    have hD : va_D Aw (([(u 0, .inl (G.2 1, 64, .inr (.inl E))), (u 1, .inl (G.2 0, 8, .inl (F 1))), (u 2, .inl (G.2 0, 3, .inl (F 2))), (u 3, .inl (G.2 0, 3, .inl (F 3))), (u 4, .inl (G.2 0, 40, .inl (F 4))), (u 5, .inl (G.2 0, 40, .inl (F 5))), (u 6, .inl (G.2 0, 9, .inl (F 6))), (u 7, .inl (G.2 0, 12, .inl (F 7))), (u 8, .inl (G.2 0, 12, .inl (F 8))), (u 9, .inl (G.2 0, 10, .inl (upd (upd (F 9) 8 0) 9 0)))] : va_W) ++ w) := hD
    refine lv_aload_n hx hb dL_chats_76 rfl (lv_at hl 1 rfl) ?_
    refine z_wR (G := G) (w := w) (c2 := 4) (s2 := 24) (va_runV (As := []) (rest := []) ⟨hx, hb, hml, hown, hts⟩ (c_X6_clear l G d r A mc g N T w Hz.size hC (sSm.of hJ.1.1)) (cwV 0 hts gL_chats_X6_clear rfl rfl rfl (by decide +kernel) ⟨Nat.le_of_ble_eq_true rfl, Nat.le_of_ble_eq_true rfl⟩) (z_wv hK (z_apR hP) (ci := 7) (q0 := 0) rfl (hC.1.1 0 (by omega)) (z_apR hP) (z_dR hD) hZ hS hA) rfl rfl hl.1 rfl (lv_room (Nat.le_of_ble_eq_true rfl)) dL_chats_77 ⟨(show 4 + 0 ≤ 600 by omega), (show 24 + 0 ≤ 3600 by omega)⟩) hP hD hS hA (Nat.le_refl _) (Nat.le_refl _) (fun rz_37 zw_37 Hz Lz hq hP hD hS => ?_)
    obtain ⟨hr9, A, mc, g, hC⟩ := hq
    rw [hr9]
    refine lv_iload hx hb dL_chats_80 (lv_at hl 0 rfl) ?_
    refine lv_icmp_ne (tgt := 89) hx hb dL_chats_82 (by decide) (fun zc_38 => absurd rfl zc_38) (fun _ => ?_)
    refine lv_iconst (v := 1) hx hb dL_chats_85 (by decide) ?_
    refine lv_goto (tgt := 90) hx hb dL_chats_86 (by decide) ?_
    exact z_widen (k := 600) (n := 3600) (show 4 ≤ 600 by omega) (show 24 ≤ 3600 by omega) (W.zret (v := 1) hx hb hr rfl (fun t ht hW => ⟨⟨1, (([(u 0, .inl (G.2 1, 64, .inr (.inl E))), (u 1, .inl (G.2 0, 8, .inl (F 1))), (u 2, .inl (G.2 0, 3, .inl (F 2))), (u 3, .inl (G.2 0, 3, .inl (F 3))), (u 4, .inl (G.2 0, 40, .inl (F 4))), (u 5, .inl (G.2 0, 40, .inl (F 5))), (u 6, .inl (G.2 0, 9, .inl (F 6))), (u 7, .inl (G.2 0, 12, .inl (F 7))), (u 8, .inl (G.2 0, 12, .inl (F 8))), (u 9, .inl (G.2 0, 10, .inl (upd (upd (F 9) 8 0) 9 0)))] : va_W) ++ zw_37), rfl, ⟨rfl, (va_up N 4 0), T, E, (va_up F 9 (upd (upd (F 9) 8 0) 9 0)), zw_37, rfl, ⟨A, mc, g, hC⟩, hRn, ((sLJ_clear hJ).mono (by omega))⟩, ⟨by rw [ht]; exact hP, hD⟩⟩, hS.F ht⟩) hS.2.2 dL_chats_90 hlocks)

set_option maxHeartbeats 4000000 in
set_option maxRecDepth 100000 in
theorem vchats_422a {p : Program} {l : Launch} {e : Env} {s : State} {m : MethodId} {below : List Frame} {meth : Method} {c : Code} {G : zG} {d : Nat} {r u : Nat → Nat} {act x y : Int32} {Aw : Nat → Prop} (hst : l.stackTraces = false) (hx : p.tables.exec = Jvm.exec) (hb : c.code = cL_chats) (hr : meth.sig.returnType = some .boolean) (hml : c.maxLocals = 17) (hown : s.vm.findClass RL = some m.cls) (hts : ∀ w ∈ wsL_chats, w.before ([.ref (r 0), .int act, .int x, .int y, .ref (u 0), .ref (u 7), .ref (u 8), .ref (u 9)] : List Value).toArray s = true) (hlocks : meth.locks = false) (hK : va_K G.1 vwCl (zT G.2) s) (hZ : zCe Aw d s s.heap) (hLx : zLx s) (hA : ∀ q : Nat, s.heap.size ≤ q → Aw q) {A : Nat → Nat} {mc : Nat → Int32} {g : Nat → Nat → Int32} {N : Nat → Nat} {T : Nat → Nat → Int32} {w : va_W} {E : Nat → Int64} {F : Nat → Nat → Int32} {K : Nat} (hC : sCQ G d r A mc g N T w) (hR : sLR N T E F) (hJ : sLJ N T K) (hK5 : K ≤ 400) (hh9 : N 1 ≤ 90 ∧ N 0 ≤ 1900) {jp : Nat} (hjp : jp < 9) {H : Heap} {locs : List Loc} (hP : va_P G.1 vwCl (([(u 0, .inl (G.2 1, 64, .inr (.inl E))), (u 1, .inl (G.2 0, 8, .inl (F 1))), (u 2, .inl (G.2 0, 3, .inl (F 2))), (u 3, .inl (G.2 0, 3, .inl (F 3))), (u 4, .inl (G.2 0, 40, .inl (F 4))), (u 5, .inl (G.2 0, 40, .inl (F 5))), (u 6, .inl (G.2 0, 9, .inl (F 6))), (u 7, .inl (G.2 0, 12, .inl (F 7))), (u 8, .inl (G.2 0, 12, .inl (F 8))), (u 9, .inl (G.2 0, 10, .inl (F 9)))] : va_W) ++ w) H) (hD : va_D Aw (([(u 0, .inl (G.2 1, 64, .inr (.inl E))), (u 1, .inl (G.2 0, 8, .inl (F 1))), (u 2, .inl (G.2 0, 3, .inl (F 2))), (u 3, .inl (G.2 0, 3, .inl (F 3))), (u 4, .inl (G.2 0, 40, .inl (F 4))), (u 5, .inl (G.2 0, 40, .inl (F 5))), (u 6, .inl (G.2 0, 9, .inl (F 6))), (u 7, .inl (G.2 0, 12, .inl (F 7))), (u 8, .inl (G.2 0, 12, .inl (F 8))), (u 9, .inl (G.2 0, 10, .inl (F 9)))] : va_W) ++ w)) (hS : va_S Aw s.heap H locs) {ls : Array Slot} (hl : lv_has ls 17 [(0, .ref (r 0)), (1, .int act), (2, .int x), (3, .int y), (4, .ref (u 0)), (5, .ref (u 7)), (6, .ref (u 8)), (7, .ref (u 9)), (8, .int (nI jp)), (10, .int (-1))]) : W p l e (headSpec wsL_chats ({ frames := 9, cells := 600, slots := 3600, locals := 219 })).room s m ([.ref (r 0), .int act, .int x, .int y, .ref (u 0), .ref (u 7), .ref (u 8), .ref (u 9)] : List Value).toArray below meth c H locs 30 700 (MQ below (va_Qi (fun (r1 : Int32) (wz : va_W) => r1 = 1 ∧ ∃ (N2 : Nat → Nat) (T2 : Nat → Nat → Int32) (E2 : Nat → Int64) (F2 : Nat → Nat → Int32) (w2 : va_W), wz = LW G u E2 F2 ++ w2 ∧ sCO G d r N2 T2 w2 ∧ sLR N2 T2 E2 F2 ∧ sLJ N2 T2 (K + 2)) (zB G Aw) Aw) ([.ref (r 0), .int act, .int x, .int y, .ref (u 0), .ref (u 7), .ref (u 8), .ref (u 9)] : List Value).toArray s 600 3600 Aw) (F0 m 422 ls []) := by
  have hQ := hR.q hJ
  obtain ⟨hg0, hg1, hg2, hg3, hg4, hg5, hg6, hg7, hg8⟩ := hR.2.2.2.2.2.2.2.2.2
  obtain ⟨⟨hb1, hb0, hb3, hb4, hb5⟩, hlv, hlm, hLH⟩ := id hJ.2
  obtain ⟨⟨hi0, hi2, hi3, hi4, hi5, hi6, hi1⟩, hiB, hiE, hiT, hiA, hiA0, hiM, hiK, hiK0, hiX⟩ := id hJ.1.1
  have hLG := hJ.1.2
  have hS0z : va_S Aw s.heap s.heap [] := va_S.rf
  refine lv_aload hx hb dL_chats_422 (lv_at hl 4 rfl) ?_
  refine lv_aload hx hb dL_chats_424 (lv_at hl 7 rfl) ?_
  refine lv_iload hx hb dL_chats_426 (lv_at hl 8 rfl) ?_
  refine z_csi (va_Run.run (va_runS (As := [.ref (u 0), .ref (u 9), .int (nI jp)]) (rest := []) ⟨hx, hb, hml, hown, hts⟩ (c_L_hasLeft l G u E F N T (nI jp) hQ (by first | assumption | omega | exact vp_in_nI (by omega) (by omega))) (va_cwS 3 hts gL_chats_L_hasLeft rfl rfl rfl (by decide +kernel) ⟨Nat.le_of_ble_eq_true rfl, Nat.le_of_ble_eq_true rfl⟩) (z_ps hK (z_apL hP)) rfl rfl hl.1 rfl (lv_room (Nat.le_of_ble_eq_true rfl)) dL_chats_428 ⟨(show 30 + 0 ≤ 600 by omega), (show 700 + 0 ≤ 3600 by omega)⟩)) (fun zr_1 hzr_1 => ?_)
  subst hzr_1
  refine lv_if_ne (tgt := 442) hx hb dL_chats_431 (by decide) (fun zc_2 => ?_) (fun zc_2 => ?_)
  · skip
    have hlf := zc_2
    refine lv_aload_n hx hb dL_chats_442 rfl (lv_at hl 0 rfl) ?_
    refine lv_iload hx hb dL_chats_443 (lv_at hl 8 rfl) ?_
    refine lv_iload hx hb dL_chats_445 (lv_at hl 9 rfl) ?_
    have hkz_447 : sK2 ((sIx (nI jp) 9) && (decide ((-1 : Int32) = -1) || sIx (-1 : Int32) (N 6))) (((decide (T 2 (nI jp).toNatClampNeg = 0)) && (sGood (T 17) (N 4))) && !decide (N 5 = 60)) = 2 := (sK2_2' (sAnd_y (sIx_y hjp (by omega)) (show (decide ((-1 : Int32) = -1) || sIx (-1 : Int32) (N 6)) = true from rfl)) (sAnd_l (sAnd_l (decide_eq_false hlf))))
    have hzb_447 : (8 + zmc (sK2 ((sIx (nI jp) 9) && (decide ((-1 : Int32) = -1) || sIx (-1 : Int32) (N 6))) (((decide (T 2 (nI jp).toNatClampNeg = 0)) && (sGood (T 17) (N 4))) && !decide (N 5 = 60))) (N 1) ((nPost N T (-1 : Int32)).1 1)) ≤ 8 ∧ (200 + zms (sK2 ((sIx (nI jp) 9) && (decide ((-1 : Int32) = -1) || sIx (-1 : Int32) (N 6))) (((decide (T 2 (nI jp).toNatClampNeg = 0)) && (sGood (T 17) (N 4))) && !decide (N 5 = 60))) (N 1) ((nPost N T (-1 : Int32)).1 1)) ≤ 200 := zmc_n8 (by rw [hkz_447]; decide)
    refine z_xR (G := G) (w := w) (c2 := 38) (s2 := 900) (vx_runSX (hh := [(0, 7, 10, 14), (0, 7, 16, 18)]) (As := [.ref (r 0), .int (nI jp), .int (-1)]) (rest := []) ⟨hx, hb, hml, hown, hts⟩ (h_post l hst G d r A mc g N T w K (nI jp) (-1 : Int32) H.size hC hJ.1.1 (by omega) ) (vx_cwSW 3 hts gL_chats_L_post rfl rfl rfl (by decide +kernel) ⟨Nat.le_of_ble_eq_true rfl, Nat.le_of_ble_eq_true rfl⟩) (z_hs hK (z_apR hP) (z_dR hD) hZ hLx hS hA) rfl rfl hl.1 rfl (lv_room (Nat.le_of_ble_eq_true rfl)) dL_chats_447 ⟨(show 30 + (8 + zmc (sK2 ((sIx (nI jp) 9) && (decide ((-1 : Int32) = -1) || sIx (-1 : Int32) (N 6))) (((decide (T 2 (nI jp).toNatClampNeg = 0)) && (sGood (T 17) (N 4))) && !decide (N 5 = 60))) (N 1) ((nPost N T (-1 : Int32)).1 1)) ≤ 600 by omega), (show 700 + (200 + zms (sK2 ((sIx (nI jp) 9) && (decide ((-1 : Int32) = -1) || sIx (-1 : Int32) (N 6))) (((decide (T 2 (nI jp).toNatClampNeg = 0)) && (sGood (T 17) (N 4))) && !decide (N 5 = 60))) (N 1) ((nPost N T (-1 : Int32)).1 1)) ≤ 3600 by omega)⟩) hP hD hS hA (show 30 + (8 + zmc (sK2 ((sIx (nI jp) 9) && (decide ((-1 : Int32) = -1) || sIx (-1 : Int32) (N 6))) (((decide (T 2 (nI jp).toNatClampNeg = 0)) && (sGood (T 17) (N 4))) && !decide (N 5 = 60))) (N 1) ((nPost N T (-1 : Int32)).1 1)) ≤ 38 by omega) (show 700 + (200 + zms (sK2 ((sIx (nI jp) 9) && (decide ((-1 : Int32) = -1) || sIx (-1 : Int32) (N 6))) (((decide (T 2 (nI jp).toNatClampNeg = 0)) && (sGood (T 17) (N 4))) && !decide (N 5 = 60))) (N 1) ((nPost N T (-1 : Int32)).1 1)) ≤ 900 by omega) (fun rz_3 zw_3 Hz Lz hq hP hD hS => ?_)
    obtain ⟨hr9, hw9⟩ := hq.2 (by rw [hkz_447]; decide)
    rw [hw9] at hP hD
    rw [hr9, show zCx [-7100, -7300] (sK2 ((sIx (nI jp) 9) && (decide ((-1 : Int32) = -1) || sIx (-1 : Int32) (N 6))) (((decide (T 2 (nI jp).toNatClampNeg = 0)) && (sGood (T 17) (N 4))) && !decide (N 5 = 60))) = (-7300) from by rw [hkz_447]; rfl]
    refine lv_sipush (v := (-7300)) hx hb dL_chats_450 (by decide) ?_
    refine lv_icmp_ne (tgt := 460) hx hb dL_chats_453 (by decide) (fun zc_4 => absurd zc_4 (by decide)) (fun _ => ?_)
    refine lv_iconst (v := 1) hx hb dL_chats_456 (by decide) ?_
    refine lv_goto (tgt := 461) hx hb dL_chats_457 (by decide) ?_
    exact z_widen (k := 600) (n := 3600) (show 38 ≤ 600 by omega) (show 900 ≤ 3600 by omega) (W.zret (v := 1) hx hb hr rfl (fun t ht hW => ⟨⟨1, (([(u 0, .inl (G.2 1, 64, .inr (.inl E))), (u 1, .inl (G.2 0, 8, .inl (F 1))), (u 2, .inl (G.2 0, 3, .inl (F 2))), (u 3, .inl (G.2 0, 3, .inl (F 3))), (u 4, .inl (G.2 0, 40, .inl (F 4))), (u 5, .inl (G.2 0, 40, .inl (F 5))), (u 6, .inl (G.2 0, 9, .inl (F 6))), (u 7, .inl (G.2 0, 12, .inl (F 7))), (u 8, .inl (G.2 0, 12, .inl (F 8))), (u 9, .inl (G.2 0, 10, .inl (F 9)))] : va_W) ++ w), rfl, ⟨rfl, N, T, E, F, w, rfl, ⟨A, mc, g, hC⟩, hR, (hJ.mono (by omega))⟩, ⟨by rw [ht]; exact hP, hD⟩⟩, hS.F ht⟩) hS.2.2 dL_chats_461 hlocks)
  · skip
    have hlf := zc_2
    refine lv_aload hx hb dL_chats_434 (lv_at hl 7 rfl) ?_
    refine z_csi (va_Run.run (va_runS (As := [.ref (u 9)]) (rest := []) ⟨hx, hb, hml, hown, hts⟩ (c_L_isWhole l G u E F N T hR.2.2.2.2.2.2.2.2.1 hg8 hb4) (va_cwS 1 hts gL_chats_L_isWhole rfl rfl rfl (by decide +kernel) ⟨Nat.le_of_ble_eq_true rfl, Nat.le_of_ble_eq_true rfl⟩) (z_ps hK (z_apL hP)) rfl rfl hl.1 rfl (lv_room (Nat.le_of_ble_eq_true rfl)) dL_chats_436 ⟨(show 30 + 0 ≤ 600 by omega), (show 700 + 0 ≤ 3600 by omega)⟩)) (fun zr_5 hzr_5 => ?_)
    subst hzr_5
    refine lv_if_ne (tgt := 462) hx hb dL_chats_439 (by decide) (fun zc_6 => ?_) (fun zc_6 => ?_)
    · skip
      have zc_6 := zb_n0 zc_6
      have hgz := zc_6
      refine lv_aload hx hb dL_chats_462 (lv_at hl 7 rfl) ?_
      refine lv_bipush (v := 6) hx hb dL_chats_464 (by decide) ?_
      refine va_iald hx hb hK (z_apL hP) 9 0 rfl rfl (vp_in_nI (n := 6) (by decide) (by decide)) dL_chats_466 ?_
      refine W.eq (g2 := F0 m 467 ls [.int (nI (N 5))]) (by rw [show (F 9) (6 : Int32).toNatClampNeg = nI (N 5) from hg6]) ?_
      refine lv_bipush (v := 12) hx hb dL_chats_467 (by decide) ?_
      refine lv_icmp_ne (tgt := 490) hx hb dL_chats_469 (by decide) (fun zc_7 => ?_) (fun zc_7 => ?_)
      · skip
        have h12 : N 5 < 12 := by have hz9 : ¬ N 5 = 12 := (fun z => zc_7 (by rw [z]; rfl)); omega
        obtain ⟨D, hDt, hx9⟩ := hR.2.2.2.2.2.2.2.2.1
        have hpos4 : 0 < N 4 := by have hz8 := hgz; rw [sGood] at hz8; exact of_decide_eq_true (sAndI (sAndI hz8).1).2
        refine lv_iload hx hb dL_chats_490 (lv_at hl 9 rfl) ?_
        refine lv_if_ge (tgt := 503) hx hb dL_chats_492 (by decide) (fun zc_8 => absurd zc_8 (by decide)) (fun _ => ?_)
        refine lv_aload hx hb dL_chats_495 (lv_at hl 7 rfl) ?_
        refine lv_bipush (v := 7) hx hb dL_chats_497 (by decide) ?_
        refine va_iald hx hb hK (z_apL hP) 9 0 rfl rfl (vp_in_nI (n := 7) (by decide) (by decide)) dL_chats_499 ?_
        refine W.eq (g2 := F0 m 500 ls [.int (nI (N 6))]) (by rw [show (F 9) (7 : Int32).toNatClampNeg = nI (N 6) from hg7]) ?_
        refine lv_goto (tgt := 505) hx hb dL_chats_500 (by decide) ?_
        refine lv_istore (lv' := [(11, .int (nI (N 6))), (0, .ref (r 0)), (1, .int act), (2, .int x), (3, .int y), (4, .ref (u 0)), (5, .ref (u 7)), (6, .ref (u 8)), (7, .ref (u 9)), (8, .int (nI jp)), (10, .int (-1))]) hx hb dL_chats_505 hl (by decide) rfl (fun ls hl => ?_)
        refine lv_aload hx hb dL_chats_507 (lv_at hl 8 rfl) ?_
        refine lv_bipush (v := 7) hx hb dL_chats_509 (by decide) ?_
        refine lv_dup2_11 hx hb dL_chats_511 rfl rfl ?_
        refine va_iald hx hb hK (z_apL hP) 9 0 rfl rfl (vp_in_nI (n := 7) (by decide) (by decide)) dL_chats_512 ?_
        refine W.eq (g2 := F0 m 513 ls [.int (nI (N 6)), .int 7, .ref (u 9)]) (by rw [show (F 9) (7 : Int32).toNatClampNeg = nI (N 6) from hg7]) ?_
        refine lv_iload hx hb dL_chats_513 (lv_at hl 10 rfl) ?_
        refine lv_if_ge (tgt := 522) hx hb dL_chats_515 (by decide) (fun zc_9 => absurd zc_9 (by decide)) (fun _ => ?_)
        refine lv_iconst (v := 1) hx hb dL_chats_518 (by decide) ?_
        refine lv_goto (tgt := 523) hx hb dL_chats_519 (by decide) ?_
        refine lv_iadd hx hb dL_chats_523 ?_
        refine W.eq (g2 := F0 m 524 ls [.int (nI (if (-1 : Int32) = -1 then N 6 + 1 else N 6)), .int 7, .ref (u 9)]) (by first | (rw [nI_1, (show (if (-1 : Int32) = -1 then N 6 + 1 else N 6) = N 6 + 1 from if_pos rfl)]; done) | (rw [nI_1, (show (if (-1 : Int32) = -1 then N 6 + 1 else N 6) = N 6 + 1 from if_pos rfl)]; rfl)) ?_
        refine va_iast hx hb hK hP hD hS 9 0 rfl rfl (vp_in_nI (n := 7) (by decide) (by decide)) dL_chats_524 (fun Hz Lz hP hD hS => ?_)
        have hP : va_P G.1 vwCl (([(u 0, .inl (G.2 1, 64, .inr (.inl E))), (u 1, .inl (G.2 0, 8, .inl (F 1))), (u 2, .inl (G.2 0, 3, .inl (F 2))), (u 3, .inl (G.2 0, 3, .inl (F 3))), (u 4, .inl (G.2 0, 40, .inl (F 4))), (u 5, .inl (G.2 0, 40, .inl (F 5))), (u 6, .inl (G.2 0, 9, .inl (F 6))), (u 7, .inl (G.2 0, 12, .inl (F 7))), (u 8, .inl (G.2 0, 12, .inl (F 8))), (u 9, .inl (G.2 0, 10, .inl (upd (F 9) 7 (nI (if (-1 : Int32) = -1 then N 6 + 1 else N 6)))))] : va_W) ++ w) Hz := hP
        have hD : va_D Aw (([(u 0, .inl (G.2 1, 64, .inr (.inl E))), (u 1, .inl (G.2 0, 8, .inl (F 1))), (u 2, .inl (G.2 0, 3, .inl (F 2))), (u 3, .inl (G.2 0, 3, .inl (F 3))), (u 4, .inl (G.2 0, 40, .inl (F 4))), (u 5, .inl (G.2 0, 40, .inl (F 5))), (u 6, .inl (G.2 0, 9, .inl (F 6))), (u 7, .inl (G.2 0, 12, .inl (F 7))), (u 8, .inl (G.2 0, 12, .inl (F 8))), (u 9, .inl (G.2 0, 10, .inl (upd (F 9) 7 (nI (if (-1 : Int32) = -1 then N 6 + 1 else N 6)))))] : va_W) ++ w) := hD
        refine lv_iconst (v := (-1)) hx hb dL_chats_525 (by decide) ?_
        refine lv_istore (lv' := [(12, .int (-1)), (11, .int (nI (N 6))), (0, .ref (r 0)), (1, .int act), (2, .int x), (3, .int y), (4, .ref (u 0)), (5, .ref (u 7)), (6, .ref (u 8)), (7, .ref (u 9)), (8, .int (nI jp)), (10, .int (-1))]) hx hb dL_chats_526 hl (by decide) rfl (fun ls hl => ?_)
        refine lv_iconst (v := 0) hx hb dL_chats_528 (by decide) ?_
        refine lv_istore (lv' := [(13, .int 0), (12, .int (-1)), (11, .int (nI (N 6))), (0, .ref (r 0)), (1, .int act), (2, .int x), (3, .int y), (4, .ref (u 0)), (5, .ref (u 7)), (6, .ref (u 8)), (7, .ref (u 9)), (8, .int (nI jp)), (10, .int (-1))]) hx hb dL_chats_529 hl (by decide) rfl (fun ls hl => ?_)
        have key_531 : ∀ (n i : Nat), i ≤ (N 4 - 1) → (N 4 - 1) < i + n → ∀ (Hz : Heap) (Lz : List Loc), va_P G.1 vwCl (([(u 0, .inl (G.2 1, 64, .inr (.inl E))), (u 1, .inl (G.2 0, 8, .inl (F 1))), (u 2, .inl (G.2 0, 3, .inl (F 2))), (u 3, .inl (G.2 0, 3, .inl (F 3))), (u 4, .inl (G.2 0, 40, .inl (F 4))), (u 5, .inl (G.2 0, 40, .inl (F 5))), (u 6, .inl (G.2 0, 9, .inl (F 6))), (u 7, .inl (G.2 0, 12, .inl (F 7))), (u 8, .inl (G.2 0, 12, .inl (F 8))), (u 9, .inl (G.2 0, 10, .inl (upd (F 9) 7 (nI (if (-1 : Int32) = -1 then N 6 + 1 else N 6)))))] : va_W) ++ w) Hz → va_D Aw (([(u 0, .inl (G.2 1, 64, .inr (.inl E))), (u 1, .inl (G.2 0, 8, .inl (F 1))), (u 2, .inl (G.2 0, 3, .inl (F 2))), (u 3, .inl (G.2 0, 3, .inl (F 3))), (u 4, .inl (G.2 0, 40, .inl (F 4))), (u 5, .inl (G.2 0, 40, .inl (F 5))), (u 6, .inl (G.2 0, 9, .inl (F 6))), (u 7, .inl (G.2 0, 12, .inl (F 7))), (u 8, .inl (G.2 0, 12, .inl (F 8))), (u 9, .inl (G.2 0, 10, .inl (upd (F 9) 7 (nI (if (-1 : Int32) = -1 then N 6 + 1 else N 6)))))] : va_W) ++ w) → va_S Aw s.heap Hz Lz → ∀ ls : Array Slot, lv_has ls 17 [(0, .ref (r 0)), (1, .int act), (2, .int x), (3, .int y), (4, .ref (u 0)), (5, .ref (u 7)), (6, .ref (u 8)), (7, .ref (u 9)), (8, .int (nI jp)), (10, .int (-1)), (11, .int (nI (N 6))), (12, .int (sMeantTo (T 17) i)), (13, .int (nI i))] → W p l e (headSpec wsL_chats ({ frames := 9, cells := 600, slots := 3600, locals := 219 })).room s m ([.ref (r 0), .int act, .int x, .int y, .ref (u 0), .ref (u 7), .ref (u 8), .ref (u 9)] : List Value).toArray below meth c Hz Lz (50) (760) (MQ below (va_Qi (fun (r1 : Int32) (wz : va_W) => r1 = 1 ∧ ∃ (N2 : Nat → Nat) (T2 : Nat → Nat → Int32) (E2 : Nat → Int64) (F2 : Nat → Nat → Int32) (w2 : va_W), wz = LW G u E2 F2 ++ w2 ∧ sCO G d r N2 T2 w2 ∧ sLR N2 T2 E2 F2 ∧ sLJ N2 T2 (K + 2)) (zB G Aw) Aw) ([.ref (r 0), .int act, .int x, .int y, .ref (u 0), .ref (u 7), .ref (u 8), .ref (u 9)] : List Value).toArray s 600 3600 Aw) (F0 m 531 ls []) := by
          intro n
          induction n with
          | zero => intro i hi_a hi_b; exact absurd hi_b (by omega)
          | succ n ih =>
            intro i hil hin    Hz Lz hP hD hS ls hl
            refine lv_iload hx hb dL_chats_531 (lv_at hl 12 rfl) ?_
            refine lv_iconst (v := 1) hx hb dL_chats_533 (by decide) ?_
            refine lv_iadd hx hb dL_chats_534 ?_
            refine W.eq (g2 := F0 m 535 ls [.int (nI (i + 1))]) (by first | (rw [nI_1]; done) | (rw [nI_1]; rfl)) ?_
            refine lv_aload hx hb dL_chats_535 (lv_at hl 7 rfl) ?_
            refine lv_bipush (v := 8) hx hb dL_chats_537 (by decide) ?_
            refine va_iald hx hb hK (z_apL hP) 9 0 rfl rfl (vp_in_nI (n := 8) (by decide) (by decide)) dL_chats_539 ?_
            refine W.eq (g2 := F0 m 540 ls [.int (nI (N 4)), .int (nI (i + 1))]) (by rw [show (upd (F 9) 7 (nI (if (-1 : Int32) = -1 then N 6 + 1 else N 6))) (8 : Int32).toNatClampNeg = nI (N 4) from hg8]) ?_
            refine lv_icmp_ge (tgt := 625) hx hb dL_chats_540 (by decide) (fun zc_10 => ?_) (fun zc_10 => ?_)
            · skip
              have zd_10 := Int32.not_lt.mpr zc_10
              have zhc : N 4 ≤ i + 1 := (nI_leI (by omega) (by omega)).mp zc_10
              have zie : i = N 4 - 1 := by omega
              subst zie
              refine lv_aload hx hb dL_chats_625 (lv_at hl 5 rfl) ?_
              refine lv_aload hx hb dL_chats_627 (lv_at hl 7 rfl) ?_
              refine lv_bipush (v := 6) hx hb dL_chats_629 (by decide) ?_
              refine va_iald hx hb hK (z_apL hP) 9 0 rfl rfl (vp_in_nI (n := 6) (by decide) (by decide)) dL_chats_631 ?_
              refine W.eq (g2 := F0 m 632 ls [.int (nI (N 5)), .ref (u 7)]) (by rw [show (upd (F 9) 7 (nI (if (-1 : Int32) = -1 then N 6 + 1 else N 6))) (6 : Int32).toNatClampNeg = nI (N 5) from hg6]) ?_
              refine lv_aload hx hb dL_chats_632 (lv_at hl 7 rfl) ?_
              refine lv_bipush (v := 8) hx hb dL_chats_634 (by decide) ?_
              refine va_iald hx hb hK (z_apL hP) 9 0 rfl rfl (vp_in_nI (n := 8) (by decide) (by decide)) dL_chats_636 ?_
              refine W.eq (g2 := F0 m 637 ls [.int (nI (N 4)), .int (nI (N 5)), .ref (u 7)]) (by rw [show (upd (F 9) 7 (nI (if (-1 : Int32) = -1 then N 6 + 1 else N 6))) (8 : Int32).toNatClampNeg = nI (N 4) from hg8]) ?_
              refine lv_bipush (v := 16) hx hb dL_chats_637 (by decide) ?_
              refine lv_aload hx hb dL_chats_639 (lv_at hl 7 rfl) ?_
              refine lv_bipush (v := 9) hx hb dL_chats_641 (by decide) ?_
              refine va_iald hx hb hK (z_apL hP) 9 0 rfl rfl (vp_in_nI (n := 9) (by decide) (by decide)) dL_chats_643 ?_
              refine W.eq (g2 := F0 m 644 ls [.int (F 9 9), .int 16, .int (nI (N 4)), .int (nI (N 5)), .ref (u 7)]) (by rw [show (upd (F 9) 7 (nI (if (-1 : Int32) = -1 then N 6 + 1 else N 6))) (9 : Int32).toNatClampNeg = F 9 9 from rfl]) ?_
              refine lv_imul hx hb dL_chats_644 ?_
              refine W.eq (g2 := F0 m 645 ls [.int (16 * nI (sP8 D (N 4))), .int (nI (N 4)), .int (nI (N 5)), .ref (u 7)]) (by first | (rw [hx9]; done) | (rw [hx9]; rfl)) ?_
              refine lv_iadd hx hb dL_chats_645 ?_
              refine W.eq (g2 := F0 m 646 ls [.int (nI (N 4 + 16 * sP8 D (N 4))), .int (nI (N 5)), .ref (u 7)]) (by first | (rw [show (16 : Int32) = nI 16 from rfl, pk_mul, nI_add]; done) | (rw [show (16 : Int32) = nI 16 from rfl, pk_mul, nI_add]; rfl)) ?_
              refine va_iast hx hb hK hP hD hS 7 0 rfl rfl (vp_in_nI (by omega) (by omega)) dL_chats_646 (fun Hz Lz hP hD hS => ?_)
              rw [nI_clamp (by omega)] at hP hD
              have hP : va_P G.1 vwCl (([(u 0, .inl (G.2 1, 64, .inr (.inl E))), (u 1, .inl (G.2 0, 8, .inl (F 1))), (u 2, .inl (G.2 0, 3, .inl (F 2))), (u 3, .inl (G.2 0, 3, .inl (F 3))), (u 4, .inl (G.2 0, 40, .inl (F 4))), (u 5, .inl (G.2 0, 40, .inl (F 5))), (u 6, .inl (G.2 0, 9, .inl (F 6))), (u 7, .inl (G.2 0, 12, .inl (upd (F 7) (N 5) (nI (N 4 + 16 * sP8 D (N 4)))))), (u 8, .inl (G.2 0, 12, .inl (F 8))), (u 9, .inl (G.2 0, 10, .inl (upd (F 9) 7 (nI (if (-1 : Int32) = -1 then N 6 + 1 else N 6)))))] : va_W) ++ w) Hz := hP
              have hD : va_D Aw (([(u 0, .inl (G.2 1, 64, .inr (.inl E))), (u 1, .inl (G.2 0, 8, .inl (F 1))), (u 2, .inl (G.2 0, 3, .inl (F 2))), (u 3, .inl (G.2 0, 3, .inl (F 3))), (u 4, .inl (G.2 0, 40, .inl (F 4))), (u 5, .inl (G.2 0, 40, .inl (F 5))), (u 6, .inl (G.2 0, 9, .inl (F 6))), (u 7, .inl (G.2 0, 12, .inl (upd (F 7) (N 5) (nI (N 4 + 16 * sP8 D (N 4)))))), (u 8, .inl (G.2 0, 12, .inl (F 8))), (u 9, .inl (G.2 0, 10, .inl (upd (F 9) 7 (nI (if (-1 : Int32) = -1 then N 6 + 1 else N 6)))))] : va_W) ++ w) := hD
              refine lv_aload hx hb dL_chats_647 (lv_at hl 6 rfl) ?_
              refine lv_aload hx hb dL_chats_649 (lv_at hl 7 rfl) ?_
              refine lv_bipush (v := 6) hx hb dL_chats_651 (by decide) ?_
              refine va_iald hx hb hK (z_apL hP) 9 0 rfl rfl (vp_in_nI (n := 6) (by decide) (by decide)) dL_chats_653 ?_
              refine W.eq (g2 := F0 m 654 ls [.int (nI (N 5)), .ref (u 8)]) (by rw [show (upd (F 9) 7 (nI (if (-1 : Int32) = -1 then N 6 + 1 else N 6))) (6 : Int32).toNatClampNeg = nI (N 5) from hg6]) ?_
              refine lv_iload hx hb dL_chats_654 (lv_at hl 10 rfl) ?_
              refine va_iast hx hb hK hP hD hS 8 0 rfl rfl (vp_in_nI (by omega) (by omega)) dL_chats_656 (fun Hz Lz hP hD hS => ?_)
              rw [nI_clamp (by omega)] at hP hD
              have hP : va_P G.1 vwCl (([(u 0, .inl (G.2 1, 64, .inr (.inl E))), (u 1, .inl (G.2 0, 8, .inl (F 1))), (u 2, .inl (G.2 0, 3, .inl (F 2))), (u 3, .inl (G.2 0, 3, .inl (F 3))), (u 4, .inl (G.2 0, 40, .inl (F 4))), (u 5, .inl (G.2 0, 40, .inl (F 5))), (u 6, .inl (G.2 0, 9, .inl (F 6))), (u 7, .inl (G.2 0, 12, .inl (upd (F 7) (N 5) (nI (N 4 + 16 * sP8 D (N 4)))))), (u 8, .inl (G.2 0, 12, .inl (upd (F 8) (N 5) (nI (N 6))))), (u 9, .inl (G.2 0, 10, .inl (upd (F 9) 7 (nI (if (-1 : Int32) = -1 then N 6 + 1 else N 6)))))] : va_W) ++ w) Hz := hP
              have hD : va_D Aw (([(u 0, .inl (G.2 1, 64, .inr (.inl E))), (u 1, .inl (G.2 0, 8, .inl (F 1))), (u 2, .inl (G.2 0, 3, .inl (F 2))), (u 3, .inl (G.2 0, 3, .inl (F 3))), (u 4, .inl (G.2 0, 40, .inl (F 4))), (u 5, .inl (G.2 0, 40, .inl (F 5))), (u 6, .inl (G.2 0, 9, .inl (F 6))), (u 7, .inl (G.2 0, 12, .inl (upd (F 7) (N 5) (nI (N 4 + 16 * sP8 D (N 4)))))), (u 8, .inl (G.2 0, 12, .inl (upd (F 8) (N 5) (nI (N 6))))), (u 9, .inl (G.2 0, 10, .inl (upd (F 9) 7 (nI (if (-1 : Int32) = -1 then N 6 + 1 else N 6)))))] : va_W) ++ w) := hD
              refine lv_aload hx hb dL_chats_657 (lv_at hl 7 rfl) ?_
              refine lv_bipush (v := 6) hx hb dL_chats_659 (by decide) ?_
              refine lv_dup2_11 hx hb dL_chats_661 rfl rfl ?_
              refine va_iald hx hb hK (z_apL hP) 9 0 rfl rfl (vp_in_nI (n := 6) (by decide) (by decide)) dL_chats_662 ?_
              refine W.eq (g2 := F0 m 663 ls [.int (nI (N 5)), .int 6, .ref (u 9)]) (by rw [show (upd (F 9) 7 (nI (if (-1 : Int32) = -1 then N 6 + 1 else N 6))) (6 : Int32).toNatClampNeg = nI (N 5) from hg6]) ?_
              refine lv_iconst (v := 1) hx hb dL_chats_663 (by decide) ?_
              refine lv_iadd hx hb dL_chats_664 ?_
              refine W.eq (g2 := F0 m 665 ls [.int (nI (N 5 + 1)), .int 6, .ref (u 9)]) (by first | (rw [nI_1]; done) | (rw [nI_1]; rfl)) ?_
              refine va_iast hx hb hK hP hD hS 9 0 rfl rfl (vp_in_nI (n := 6) (by decide) (by decide)) dL_chats_665 (fun Hz Lz hP hD hS => ?_)
              have hP : va_P G.1 vwCl (([(u 0, .inl (G.2 1, 64, .inr (.inl E))), (u 1, .inl (G.2 0, 8, .inl (F 1))), (u 2, .inl (G.2 0, 3, .inl (F 2))), (u 3, .inl (G.2 0, 3, .inl (F 3))), (u 4, .inl (G.2 0, 40, .inl (F 4))), (u 5, .inl (G.2 0, 40, .inl (F 5))), (u 6, .inl (G.2 0, 9, .inl (F 6))), (u 7, .inl (G.2 0, 12, .inl (upd (F 7) (N 5) (nI (N 4 + 16 * sP8 D (N 4)))))), (u 8, .inl (G.2 0, 12, .inl (upd (F 8) (N 5) (nI (N 6))))), (u 9, .inl (G.2 0, 10, .inl (upd (upd (F 9) 7 (nI (if (-1 : Int32) = -1 then N 6 + 1 else N 6))) 6 (nI (N 5 + 1)))))] : va_W) ++ w) Hz := hP
              have hD : va_D Aw (([(u 0, .inl (G.2 1, 64, .inr (.inl E))), (u 1, .inl (G.2 0, 8, .inl (F 1))), (u 2, .inl (G.2 0, 3, .inl (F 2))), (u 3, .inl (G.2 0, 3, .inl (F 3))), (u 4, .inl (G.2 0, 40, .inl (F 4))), (u 5, .inl (G.2 0, 40, .inl (F 5))), (u 6, .inl (G.2 0, 9, .inl (F 6))), (u 7, .inl (G.2 0, 12, .inl (upd (F 7) (N 5) (nI (N 4 + 16 * sP8 D (N 4)))))), (u 8, .inl (G.2 0, 12, .inl (upd (F 8) (N 5) (nI (N 6))))), (u 9, .inl (G.2 0, 10, .inl (upd (upd (F 9) 7 (nI (if (-1 : Int32) = -1 then N 6 + 1 else N 6))) 6 (nI (N 5 + 1)))))] : va_W) ++ w) := hD
              refine lv_aload hx hb dL_chats_666 (lv_at hl 7 rfl) ?_
              refine lv_bipush (v := 8) hx hb dL_chats_668 (by decide) ?_
              refine lv_iconst (v := 0) hx hb dL_chats_670 (by decide) ?_
              refine va_iast hx hb hK hP hD hS 9 0 rfl rfl (vp_in_nI (n := 8) (by decide) (by decide)) dL_chats_671 (fun Hz Lz hP hD hS => ?_)
              have hP : va_P G.1 vwCl (([(u 0, .inl (G.2 1, 64, .inr (.inl E))), (u 1, .inl (G.2 0, 8, .inl (F 1))), (u 2, .inl (G.2 0, 3, .inl (F 2))), (u 3, .inl (G.2 0, 3, .inl (F 3))), (u 4, .inl (G.2 0, 40, .inl (F 4))), (u 5, .inl (G.2 0, 40, .inl (F 5))), (u 6, .inl (G.2 0, 9, .inl (F 6))), (u 7, .inl (G.2 0, 12, .inl (upd (F 7) (N 5) (nI (N 4 + 16 * sP8 D (N 4)))))), (u 8, .inl (G.2 0, 12, .inl (upd (F 8) (N 5) (nI (N 6))))), (u 9, .inl (G.2 0, 10, .inl (upd (upd (upd (F 9) 7 (nI (if (-1 : Int32) = -1 then N 6 + 1 else N 6))) 6 (nI (N 5 + 1))) 8 0)))] : va_W) ++ w) Hz := hP
              have hD : va_D Aw (([(u 0, .inl (G.2 1, 64, .inr (.inl E))), (u 1, .inl (G.2 0, 8, .inl (F 1))), (u 2, .inl (G.2 0, 3, .inl (F 2))), (u 3, .inl (G.2 0, 3, .inl (F 3))), (u 4, .inl (G.2 0, 40, .inl (F 4))), (u 5, .inl (G.2 0, 40, .inl (F 5))), (u 6, .inl (G.2 0, 9, .inl (F 6))), (u 7, .inl (G.2 0, 12, .inl (upd (F 7) (N 5) (nI (N 4 + 16 * sP8 D (N 4)))))), (u 8, .inl (G.2 0, 12, .inl (upd (F 8) (N 5) (nI (N 6))))), (u 9, .inl (G.2 0, 10, .inl (upd (upd (upd (F 9) 7 (nI (if (-1 : Int32) = -1 then N 6 + 1 else N 6))) 6 (nI (N 5 + 1))) 8 0)))] : va_W) ++ w) := hD
              refine lv_aload hx hb dL_chats_672 (lv_at hl 7 rfl) ?_
              refine lv_bipush (v := 9) hx hb dL_chats_674 (by decide) ?_
              refine lv_iconst (v := 0) hx hb dL_chats_676 (by decide) ?_
              refine va_iast hx hb hK hP hD hS 9 0 rfl rfl (vp_in_nI (n := 9) (by decide) (by decide)) dL_chats_677 (fun Hz Lz hP hD hS => ?_)
              have hP : va_P G.1 vwCl (([(u 0, .inl (G.2 1, 64, .inr (.inl E))), (u 1, .inl (G.2 0, 8, .inl (F 1))), (u 2, .inl (G.2 0, 3, .inl (F 2))), (u 3, .inl (G.2 0, 3, .inl (F 3))), (u 4, .inl (G.2 0, 40, .inl (F 4))), (u 5, .inl (G.2 0, 40, .inl (F 5))), (u 6, .inl (G.2 0, 9, .inl (F 6))), (u 7, .inl (G.2 0, 12, .inl (upd (F 7) (N 5) (nI (N 4 + 16 * sP8 D (N 4)))))), (u 8, .inl (G.2 0, 12, .inl (upd (F 8) (N 5) (nI (N 6))))), (u 9, .inl (G.2 0, 10, .inl (upd (upd (upd (upd (F 9) 7 (nI (if (-1 : Int32) = -1 then N 6 + 1 else N 6))) 6 (nI (N 5 + 1))) 8 0) 9 0)))] : va_W) ++ w) Hz := hP
              have hD : va_D Aw (([(u 0, .inl (G.2 1, 64, .inr (.inl E))), (u 1, .inl (G.2 0, 8, .inl (F 1))), (u 2, .inl (G.2 0, 3, .inl (F 2))), (u 3, .inl (G.2 0, 3, .inl (F 3))), (u 4, .inl (G.2 0, 40, .inl (F 4))), (u 5, .inl (G.2 0, 40, .inl (F 5))), (u 6, .inl (G.2 0, 9, .inl (F 6))), (u 7, .inl (G.2 0, 12, .inl (upd (F 7) (N 5) (nI (N 4 + 16 * sP8 D (N 4)))))), (u 8, .inl (G.2 0, 12, .inl (upd (F 8) (N 5) (nI (N 6))))), (u 9, .inl (G.2 0, 10, .inl (upd (upd (upd (upd (F 9) 7 (nI (if (-1 : Int32) = -1 then N 6 + 1 else N 6))) 6 (nI (N 5 + 1))) 8 0) 9 0)))] : va_W) ++ w) := hD
              have hP : va_P G.1 vwCl (([(u 0, .inl (G.2 1, 64, .inr (.inl E))), (u 1, .inl (G.2 0, 8, .inl (F 1))), (u 2, .inl (G.2 0, 3, .inl (F 2))), (u 3, .inl (G.2 0, 3, .inl (F 3))), (u 4, .inl (G.2 0, 40, .inl (F 4))), (u 5, .inl (G.2 0, 40, .inl (F 5))), (u 6, .inl (G.2 0, 9, .inl (F 6))), (u 7, .inl (G.2 0, 12, .inl (upd (F 7) (N 5) (nI (N 4 + 16 * sP8 D (N 4)))))), (u 8, .inl (G.2 0, 12, .inl (upd (F 8) (N 5) (nI (N 6))))), (u 9, .inl (G.2 0, 10, .inl (upd (upd (upd (upd (F 9) 7 (nI (if (-1 : Int32) = -1 then N 6 + 1 else N 6))) 6 (nI (N 5 + 1))) 8 0) 9 0)))] : va_W) ++ w) Hz := hP
              have hD : va_D Aw (([(u 0, .inl (G.2 1, 64, .inr (.inl E))), (u 1, .inl (G.2 0, 8, .inl (F 1))), (u 2, .inl (G.2 0, 3, .inl (F 2))), (u 3, .inl (G.2 0, 3, .inl (F 3))), (u 4, .inl (G.2 0, 40, .inl (F 4))), (u 5, .inl (G.2 0, 40, .inl (F 5))), (u 6, .inl (G.2 0, 9, .inl (F 6))), (u 7, .inl (G.2 0, 12, .inl (upd (F 7) (N 5) (nI (N 4 + 16 * sP8 D (N 4)))))), (u 8, .inl (G.2 0, 12, .inl (upd (F 8) (N 5) (nI (N 6))))), (u 9, .inl (G.2 0, 10, .inl (upd (upd (upd (upd (F 9) 7 (nI (if (-1 : Int32) = -1 then N 6 + 1 else N 6))) 6 (nI (N 5 + 1))) 8 0) 9 0)))] : va_W) ++ w) := hD
              refine lv_iload hx hb dL_chats_678 (lv_at hl 11 rfl) ?_
              refine lv_if_lt (tgt := 695) hx hb dL_chats_680 (by decide) (fun zc_11 => ?_) (fun zc_11 => ?_)
              · skip
                have zd_11 := Int32.not_le.mpr zc_11
                have hmz : sMeant (T 17) (N 4) = -1 := sMeant_ge.mp zc_11
                have hRn := sLR_post_n (a := (-1 : Int32)) (f8 := (upd (F 8) (N 5) (nI (N 6)))) hR hDt hb4 hmz
                refine lv_aload_n hx hb dL_chats_695 rfl (lv_at hl 0 rfl) ?_
                refine lv_iload hx hb dL_chats_696 (lv_at hl 8 rfl) ?_
                refine lv_iload hx hb dL_chats_698 (lv_at hl 9 rfl) ?_
                have hkz_700 : sK2 ((sIx (nI jp) 9) && (decide ((-1 : Int32) = -1) || sIx (-1 : Int32) (N 6))) (((decide (T 2 (nI jp).toNatClampNeg = 0)) && (sGood (T 17) (N 4))) && !decide (N 5 = 60)) = 0 := (sK2_ok (sAnd_y (sIx_y hjp (by omega)) (show (decide ((-1 : Int32) = -1) || sIx (-1 : Int32) (N 6)) = true from rfl)) (sAnd_y (sAnd_y (decide_eq_true hlf) hgz) (by simp; omega)))
                have hzb_700 : (8 + zmc (sK2 ((sIx (nI jp) 9) && (decide ((-1 : Int32) = -1) || sIx (-1 : Int32) (N 6))) (((decide (T 2 (nI jp).toNatClampNeg = 0)) && (sGood (T 17) (N 4))) && !decide (N 5 = 60))) (N 1) ((nPost N T (-1 : Int32)).1 1)) ≤ 136 ∧ (200 + zms (sK2 ((sIx (nI jp) 9) && (decide ((-1 : Int32) = -1) || sIx (-1 : Int32) (N 6))) (((decide (T 2 (nI jp).toNatClampNeg = 0)) && (sGood (T 17) (N 4))) && !decide (N 5 = 60))) (N 1) ((nPost N T (-1 : Int32)).1 1)) ≤ 744 := zmc_b8 (show (nPost N T (-1 : Int32)).1 1 ≤ 128 by have := nPost_1 (N := N) (T := T) (a := (-1 : Int32)); omega)
                refine z_xR (G := G) (w := w) (c2 := 186) (s2 := 1504) (vx_runSX (hh := [(0, 7, 10, 14), (0, 7, 16, 18)]) (As := [.ref (r 0), .int (nI jp), .int (-1)]) (rest := []) ⟨hx, hb, hml, hown, hts⟩ (h_post l hst G d r A mc g N T w K (nI jp) (-1 : Int32) Hz.size hC hJ.1.1 (by omega) ) (vx_cwSW 3 hts gL_chats_L_post rfl rfl rfl (by decide +kernel) ⟨Nat.le_of_ble_eq_true rfl, Nat.le_of_ble_eq_true rfl⟩) (z_hs hK (z_apR hP) (z_dR hD) hZ hLx hS hA) rfl rfl hl.1 rfl (lv_room (Nat.le_of_ble_eq_true rfl)) dL_chats_700 ⟨(show 50 + (8 + zmc (sK2 ((sIx (nI jp) 9) && (decide ((-1 : Int32) = -1) || sIx (-1 : Int32) (N 6))) (((decide (T 2 (nI jp).toNatClampNeg = 0)) && (sGood (T 17) (N 4))) && !decide (N 5 = 60))) (N 1) ((nPost N T (-1 : Int32)).1 1)) ≤ 600 by omega), (show 760 + (200 + zms (sK2 ((sIx (nI jp) 9) && (decide ((-1 : Int32) = -1) || sIx (-1 : Int32) (N 6))) (((decide (T 2 (nI jp).toNatClampNeg = 0)) && (sGood (T 17) (N 4))) && !decide (N 5 = 60))) (N 1) ((nPost N T (-1 : Int32)).1 1)) ≤ 3600 by omega)⟩) hP hD hS hA (show 50 + (8 + zmc (sK2 ((sIx (nI jp) 9) && (decide ((-1 : Int32) = -1) || sIx (-1 : Int32) (N 6))) (((decide (T 2 (nI jp).toNatClampNeg = 0)) && (sGood (T 17) (N 4))) && !decide (N 5 = 60))) (N 1) ((nPost N T (-1 : Int32)).1 1)) ≤ 186 by omega) (show 760 + (200 + zms (sK2 ((sIx (nI jp) 9) && (decide ((-1 : Int32) = -1) || sIx (-1 : Int32) (N 6))) (((decide (T 2 (nI jp).toNatClampNeg = 0)) && (sGood (T 17) (N 4))) && !decide (N 5 = 60))) (N 1) ((nPost N T (-1 : Int32)).1 1)) ≤ 1504 by omega) (fun rz_12 zw_12 Hz Lz hq hP hD hS => ?_)
                obtain ⟨hr9, A, mc, g, hC⟩ := hq.1 hkz_700
                rw [hr9]
                refine W.eq (g2 := F0 m 703 ls [.int (nI (N 6))]) (by first | (rw [rPost_m]; done) | (rw [rPost_m]; rfl)) ?_
                refine lv_iload hx hb dL_chats_703 (lv_at hl 10 rfl) ?_
                refine lv_icmp_ne (tgt := 712) hx hb dL_chats_705 (by decide) (fun zc_13 => absurd rfl zc_13) (fun _ => ?_)
                refine lv_iconst (v := 1) hx hb dL_chats_708 (by decide) ?_
                refine lv_goto (tgt := 713) hx hb dL_chats_709 (by decide) ?_
                exact z_widen (k := 600) (n := 3600) (show 186 ≤ 600 by omega) (show 1504 ≤ 3600 by omega) (W.zret (v := 1) hx hb hr rfl (fun t ht hW => ⟨⟨1, (([(u 0, .inl (G.2 1, 64, .inr (.inl E))), (u 1, .inl (G.2 0, 8, .inl (F 1))), (u 2, .inl (G.2 0, 3, .inl (F 2))), (u 3, .inl (G.2 0, 3, .inl (F 3))), (u 4, .inl (G.2 0, 40, .inl (F 4))), (u 5, .inl (G.2 0, 40, .inl (F 5))), (u 6, .inl (G.2 0, 9, .inl (F 6))), (u 7, .inl (G.2 0, 12, .inl (upd (F 7) (N 5) (nI (N 4 + 16 * sP8 D (N 4)))))), (u 8, .inl (G.2 0, 12, .inl (upd (F 8) (N 5) (nI (N 6))))), (u 9, .inl (G.2 0, 10, .inl (upd (upd (upd (upd (F 9) 7 (nI (if (-1 : Int32) = -1 then N 6 + 1 else N 6))) 6 (nI (N 5 + 1))) 8 0) 9 0)))] : va_W) ++ zw_12), rfl, ⟨rfl, ((nPost N T (-1 : Int32)).1), ((nPost N T (-1 : Int32)).2), E, (va_up (va_up (va_up F 7 (upd (F 7) (N 5) (nI (N 4 + 16 * sP8 D (N 4))))) 8 (upd (F 8) (N 5) (nI (N 6)))) 9 (upd (upd (upd (upd (F 9) 7 (nI (if (-1 : Int32) = -1 then N 6 + 1 else N 6))) 6 (nI (N 5 + 1))) 8 0) 9 0)), zw_12, rfl, ⟨A, mc, g, hC⟩, hRn, ((sLJ_post hJ hh9.1 h12 hkz_700).mono (by omega))⟩, ⟨by rw [ht]; exact hP, hD⟩⟩, hS.F ht⟩) hS.2.2 dL_chats_713 hlocks)
              · skip
                have zd_11 := Int32.not_lt.mp zc_11
                have hmz : ¬ sMeant (T 17) (N 4) = -1 := fun z => zc_11 (sMeant_ge.mpr z)
                refine lv_aload hx hb dL_chats_683 (lv_at hl 4 rfl) ?_
                refine lv_aload hx hb dL_chats_685 (lv_at hl 7 rfl) ?_
                refine lv_iconst (v := 5) hx hb dL_chats_687 (by decide) ?_
                refine lv_iload hx hb dL_chats_688 (lv_at hl 11 rfl) ?_
                refine lv_iload hx hb dL_chats_690 (lv_at hl 10 rfl) ?_
                refine z_lv (G := G) (w := (LW G u E (va_up (va_up (va_up F 7 (upd (F 7) (N 5) (nI (N 4 + 16 * sP8 D (N 4))))) 8 (upd (F 8) (N 5) (nI (N 6)))) 9 (upd (upd (upd (upd (F 9) 7 (nI (if (-1 : Int32) = -1 then N 6 + 1 else N 6))) 6 (nI (N 5 + 1))) 8 0) 9 0)))) (wr := w) (va_runS (As := [.ref (u 0), .ref (u 9), .int 5, .int (sMeantTo (T 17) (N 4 - 1)), .int (nI (N 6))]) (rest := []) ⟨hx, hb, hml, hown, hts⟩ (c_L_note l G u E (va_up (va_up (va_up F 7 (upd (F 7) (N 5) (nI (N 4 + 16 * sP8 D (N 4))))) 8 (upd (F 8) (N 5) (nI (N 6)))) 9 (upd (upd (upd (upd (F 9) 7 (nI (if (-1 : Int32) = -1 then N 6 + 1 else N 6))) 6 (nI (N 5 + 1))) 8 0) 9 0)) (T 0) (N 1) (N 0) 5 (sMeantTo (T 17) (N 4 - 1)) (nI (N 6)) Hz.size (show sRE E ((T 0)) (N 1) from hR.1) (by omega) hg0 hg1 hi0 ⟨5, by decide, rfl⟩ (s_who (sMeant_vp hmz)) ⟨(N 6), by omega, rfl⟩) (va_cwS 5 hts gL_chats_L_note rfl rfl rfl (by decide +kernel) ⟨Nat.le_of_ble_eq_true rfl, Nat.le_of_ble_eq_true rfl⟩) (z_us hK (z_apL hP) (z_dL hD)) rfl rfl hl.1 rfl (lv_room (Nat.le_of_ble_eq_true rfl)) dL_chats_692 ⟨(show 50 + 0 ≤ 600 by omega), (show 760 + 0 ≤ 3600 by omega)⟩) hP hD hS hA (fun w1 Hz Lz hw hP hD hS => ?_)
                obtain ⟨zE_14, rfl, hzE_14⟩ := hw
                have hP : va_P G.1 vwCl (([(u 0, .inl (G.2 1, 64, .inr (.inl zE_14))), (u 1, .inl (G.2 0, 8, .inl (F 1))), (u 2, .inl (G.2 0, 3, .inl (F 2))), (u 3, .inl (G.2 0, 3, .inl (F 3))), (u 4, .inl (G.2 0, 40, .inl (F 4))), (u 5, .inl (G.2 0, 40, .inl (F 5))), (u 6, .inl (G.2 0, 9, .inl (F 6))), (u 7, .inl (G.2 0, 12, .inl (upd (F 7) (N 5) (nI (N 4 + 16 * sP8 D (N 4)))))), (u 8, .inl (G.2 0, 12, .inl (upd (F 8) (N 5) (nI (N 6))))), (u 9, .inl (G.2 0, 10, .inl (upd ((upd (upd (upd (upd (F 9) 7 (nI (if (-1 : Int32) = -1 then N 6 + 1 else N 6))) 6 (nI (N 5 + 1))) 8 0) 9 0)) 1 (nI (N 1 + 1)))))] : va_W) ++ w) Hz := hP
                have hD : va_D Aw (([(u 0, .inl (G.2 1, 64, .inr (.inl zE_14))), (u 1, .inl (G.2 0, 8, .inl (F 1))), (u 2, .inl (G.2 0, 3, .inl (F 2))), (u 3, .inl (G.2 0, 3, .inl (F 3))), (u 4, .inl (G.2 0, 40, .inl (F 4))), (u 5, .inl (G.2 0, 40, .inl (F 5))), (u 6, .inl (G.2 0, 9, .inl (F 6))), (u 7, .inl (G.2 0, 12, .inl (upd (F 7) (N 5) (nI (N 4 + 16 * sP8 D (N 4)))))), (u 8, .inl (G.2 0, 12, .inl (upd (F 8) (N 5) (nI (N 6))))), (u 9, .inl (G.2 0, 10, .inl (upd ((upd (upd (upd (upd (F 9) 7 (nI (if (-1 : Int32) = -1 then N 6 + 1 else N 6))) 6 (nI (N 5 + 1))) 8 0) 9 0)) 1 (nI (N 1 + 1)))))] : va_W) ++ w) := hD
                have hRn := sLR_post_y (a := (-1 : Int32)) (f8 := (upd (F 8) (N 5) (nI (N 6)))) hR hDt hb4 hmz (by rw [rPost_m]; exact hzE_14)
                refine lv_aload_n hx hb dL_chats_695 rfl (lv_at hl 0 rfl) ?_
                refine lv_iload hx hb dL_chats_696 (lv_at hl 8 rfl) ?_
                refine lv_iload hx hb dL_chats_698 (lv_at hl 9 rfl) ?_
                have hkz_700 : sK2 ((sIx (nI jp) 9) && (decide ((-1 : Int32) = -1) || sIx (-1 : Int32) (N 6))) (((decide (T 2 (nI jp).toNatClampNeg = 0)) && (sGood (T 17) (N 4))) && !decide (N 5 = 60)) = 0 := (sK2_ok (sAnd_y (sIx_y hjp (by omega)) (show (decide ((-1 : Int32) = -1) || sIx (-1 : Int32) (N 6)) = true from rfl)) (sAnd_y (sAnd_y (decide_eq_true hlf) hgz) (by simp; omega)))
                have hzb_700 : (8 + zmc (sK2 ((sIx (nI jp) 9) && (decide ((-1 : Int32) = -1) || sIx (-1 : Int32) (N 6))) (((decide (T 2 (nI jp).toNatClampNeg = 0)) && (sGood (T 17) (N 4))) && !decide (N 5 = 60))) (N 1) ((nPost N T (-1 : Int32)).1 1)) ≤ 136 ∧ (200 + zms (sK2 ((sIx (nI jp) 9) && (decide ((-1 : Int32) = -1) || sIx (-1 : Int32) (N 6))) (((decide (T 2 (nI jp).toNatClampNeg = 0)) && (sGood (T 17) (N 4))) && !decide (N 5 = 60))) (N 1) ((nPost N T (-1 : Int32)).1 1)) ≤ 744 := zmc_b8 (show (nPost N T (-1 : Int32)).1 1 ≤ 128 by have := nPost_1 (N := N) (T := T) (a := (-1 : Int32)); omega)
                refine z_xR (G := G) (w := w) (c2 := 186) (s2 := 1504) (vx_runSX (hh := [(0, 7, 10, 14), (0, 7, 16, 18)]) (As := [.ref (r 0), .int (nI jp), .int (-1)]) (rest := []) ⟨hx, hb, hml, hown, hts⟩ (h_post l hst G d r A mc g N T w K (nI jp) (-1 : Int32) Hz.size hC hJ.1.1 (by omega) ) (vx_cwSW 3 hts gL_chats_L_post rfl rfl rfl (by decide +kernel) ⟨Nat.le_of_ble_eq_true rfl, Nat.le_of_ble_eq_true rfl⟩) (z_hs hK (z_apR hP) (z_dR hD) hZ hLx hS hA) rfl rfl hl.1 rfl (lv_room (Nat.le_of_ble_eq_true rfl)) dL_chats_700 ⟨(show 50 + (8 + zmc (sK2 ((sIx (nI jp) 9) && (decide ((-1 : Int32) = -1) || sIx (-1 : Int32) (N 6))) (((decide (T 2 (nI jp).toNatClampNeg = 0)) && (sGood (T 17) (N 4))) && !decide (N 5 = 60))) (N 1) ((nPost N T (-1 : Int32)).1 1)) ≤ 600 by omega), (show 760 + (200 + zms (sK2 ((sIx (nI jp) 9) && (decide ((-1 : Int32) = -1) || sIx (-1 : Int32) (N 6))) (((decide (T 2 (nI jp).toNatClampNeg = 0)) && (sGood (T 17) (N 4))) && !decide (N 5 = 60))) (N 1) ((nPost N T (-1 : Int32)).1 1)) ≤ 3600 by omega)⟩) hP hD hS hA (show 50 + (8 + zmc (sK2 ((sIx (nI jp) 9) && (decide ((-1 : Int32) = -1) || sIx (-1 : Int32) (N 6))) (((decide (T 2 (nI jp).toNatClampNeg = 0)) && (sGood (T 17) (N 4))) && !decide (N 5 = 60))) (N 1) ((nPost N T (-1 : Int32)).1 1)) ≤ 186 by omega) (show 760 + (200 + zms (sK2 ((sIx (nI jp) 9) && (decide ((-1 : Int32) = -1) || sIx (-1 : Int32) (N 6))) (((decide (T 2 (nI jp).toNatClampNeg = 0)) && (sGood (T 17) (N 4))) && !decide (N 5 = 60))) (N 1) ((nPost N T (-1 : Int32)).1 1)) ≤ 1504 by omega) (fun rz_15 zw_15 Hz Lz hq hP hD hS => ?_)
                obtain ⟨hr9, A, mc, g, hC⟩ := hq.1 hkz_700
                rw [hr9]
                refine W.eq (g2 := F0 m 703 ls [.int (nI (N 6))]) (by first | (rw [rPost_m]; done) | (rw [rPost_m]; rfl)) ?_
                refine lv_iload hx hb dL_chats_703 (lv_at hl 10 rfl) ?_
                refine lv_icmp_ne (tgt := 712) hx hb dL_chats_705 (by decide) (fun zc_16 => absurd rfl zc_16) (fun _ => ?_)
                refine lv_iconst (v := 1) hx hb dL_chats_708 (by decide) ?_
                refine lv_goto (tgt := 713) hx hb dL_chats_709 (by decide) ?_
                exact z_widen (k := 600) (n := 3600) (show 186 ≤ 600 by omega) (show 1504 ≤ 3600 by omega) (W.zret (v := 1) hx hb hr rfl (fun t ht hW => ⟨⟨1, (([(u 0, .inl (G.2 1, 64, .inr (.inl zE_14))), (u 1, .inl (G.2 0, 8, .inl (F 1))), (u 2, .inl (G.2 0, 3, .inl (F 2))), (u 3, .inl (G.2 0, 3, .inl (F 3))), (u 4, .inl (G.2 0, 40, .inl (F 4))), (u 5, .inl (G.2 0, 40, .inl (F 5))), (u 6, .inl (G.2 0, 9, .inl (F 6))), (u 7, .inl (G.2 0, 12, .inl (upd (F 7) (N 5) (nI (N 4 + 16 * sP8 D (N 4)))))), (u 8, .inl (G.2 0, 12, .inl (upd (F 8) (N 5) (nI (N 6))))), (u 9, .inl (G.2 0, 10, .inl (upd ((upd (upd (upd (upd (F 9) 7 (nI (if (-1 : Int32) = -1 then N 6 + 1 else N 6))) 6 (nI (N 5 + 1))) 8 0) 9 0)) 1 (nI (N 1 + 1)))))] : va_W) ++ zw_15), rfl, ⟨rfl, ((nPost N T (-1 : Int32)).1), ((nPost N T (-1 : Int32)).2), zE_14, (va_up (va_up (va_up F 7 (upd (F 7) (N 5) (nI (N 4 + 16 * sP8 D (N 4))))) 8 (upd (F 8) (N 5) (nI (N 6)))) 9 (upd (upd (upd (upd (upd (F 9) 7 (nI (if (-1 : Int32) = -1 then N 6 + 1 else N 6))) 6 (nI (N 5 + 1))) 8 0) 9 0) 1 (nI (N 1 + 1)))), zw_15, rfl, ⟨A, mc, g, hC⟩, hRn, ((sLJ_post hJ hh9.1 h12 hkz_700).mono (by omega))⟩, ⟨by rw [ht]; exact hP, hD⟩⟩, hS.F ht⟩) hS.2.2 dL_chats_713 hlocks)
            · skip
              have zd_10 := Int32.not_le.mp zc_10
              have hi1 : i + 1 < N 4 := Nat.lt_of_not_le (fun z => zc_10 ((nI_leI (by omega) (by omega)).mpr z))
              have hd8a := hDt.1 i
              have hd8b := hDt.1 (i + 1)
              refine lv_aload hx hb dL_chats_543 (lv_at hl 7 rfl) ?_
              refine lv_bipush (v := 9) hx hb dL_chats_545 (by decide) ?_
              refine va_iald hx hb hK (z_apL hP) 9 0 rfl rfl (vp_in_nI (n := 9) (by decide) (by decide)) dL_chats_547 ?_
              refine W.eq (g2 := F0 m 548 ls [.int (F 9 9)]) (by rw [show (upd (F 9) 7 (nI (if (-1 : Int32) = -1 then N 6 + 1 else N 6))) (9 : Int32).toNatClampNeg = F 9 9 from rfl]) ?_
              refine lv_iconst (v := 3) hx hb dL_chats_548 (by decide) ?_
              refine lv_iload hx hb dL_chats_549 (lv_at hl 12 rfl) ?_
              refine lv_imul hx hb dL_chats_551 ?_
              refine lv_iconst (v := 3) hx hb dL_chats_552 (by decide) ?_
              refine lv_iadd hx hb dL_chats_553 ?_
              refine lv_ishr hx hb dL_chats_554 ?_
              refine lv_bipush (v := 7) hx hb dL_chats_555 (by decide) ?_
              refine lv_iand hx hb dL_chats_557 ?_
              refine W.eq (g2 := F0 m 558 ls [.int (nI (D (i + 1)))]) (by first | (rw [sP8_at1 hx9 hDt.1 hi1 hb4]; done) | (rw [sP8_at1 hx9 hDt.1 hi1 hb4]; rfl)) ?_
              refine lv_istore (lv' := [(14, .int (nI (D (i + 1)))), (0, .ref (r 0)), (1, .int act), (2, .int x), (3, .int y), (4, .ref (u 0)), (5, .ref (u 7)), (6, .ref (u 8)), (7, .ref (u 9)), (8, .int (nI jp)), (10, .int (-1)), (11, .int (nI (N 6))), (12, .int (sMeantTo (T 17) i)), (13, .int (nI i))]) hx hb dL_chats_558 hl (by decide) rfl (fun ls hl => ?_)
              refine lv_aload hx hb dL_chats_560 (lv_at hl 8 rfl) ?_
              refine lv_bipush (v := 9) hx hb dL_chats_562 (by decide) ?_
              refine va_iald hx hb hK (z_apL hP) 9 0 rfl rfl (vp_in_nI (n := 9) (by decide) (by decide)) dL_chats_564 ?_
              refine W.eq (g2 := F0 m 565 ls [.int (F 9 9)]) (by rw [show (upd (F 9) 7 (nI (if (-1 : Int32) = -1 then N 6 + 1 else N 6))) (9 : Int32).toNatClampNeg = F 9 9 from rfl]) ?_
              refine lv_iconst (v := 3) hx hb dL_chats_565 (by decide) ?_
              refine lv_iload hx hb dL_chats_566 (lv_at hl 13 rfl) ?_
              refine lv_imul hx hb dL_chats_568 ?_
              refine lv_ishr hx hb dL_chats_569 ?_
              refine lv_bipush (v := 7) hx hb dL_chats_570 (by decide) ?_
              refine lv_iand hx hb dL_chats_572 ?_
              refine W.eq (g2 := F0 m 573 ls [.int (nI (D i))]) (by first | (rw [sP8_at hx9 hDt.1 (by omega) hb4]; done) | (rw [sP8_at hx9 hDt.1 (by omega) hb4]; rfl)) ?_
              refine lv_if_ne (tgt := 619) hx hb dL_chats_573 (by decide) (fun zc_17 => ?_) (fun zc_17 => ?_)
              · skip
                have hd0 : ¬ D i = 0 := fun z => zc_17 (by rw [z]; rfl)
                refine lv_iinc (v := (nI (i + 1))) (lv' := [(13, .int (nI (i + 1))), (14, .int (nI (D (i + 1)))), (0, .ref (r 0)), (1, .int act), (2, .int x), (3, .int y), (4, .ref (u 0)), (5, .ref (u 7)), (6, .ref (u 8)), (7, .ref (u 9)), (8, .int (nI jp)), (10, .int (-1)), (11, .int (nI (N 6))), (12, .int (sMeantTo (T 17) i))]) hx hb dL_chats_619 hl (k := 13) rfl (by first | exact nI_1 _ | rfl) (by decide) rfl (fun ls hl => ?_)
                refine lv_goto (tgt := 531) hx hb dL_chats_622 (by decide) ?_
                have hl2 := lv_sub (l' := [(0, .ref (r 0)), (1, .int act), (2, .int x), (3, .int y), (4, .ref (u 0)), (5, .ref (u 7)), (6, .ref (u 8)), (7, .ref (u 9)), (8, .int (nI jp)), (10, .int (-1)), (11, .int (nI (N 6))), (12, .int (sMeantTo (T 17) i)), (13, .int (nI (i + 1)))]) hl [2, 3, 4, 5, 6, 7, 8, 9, 10, 11, 12, 13, 0] rfl
                have e_12 : sMeantTo (T 17) i = sMeantTo (T 17) (i + 1) := by rw [sMw hDt hi1, if_neg (fun z => hd0 z.1)]
                have hl2 : lv_has ls 17 [(0, .ref (r 0)), (1, .int act), (2, .int x), (3, .int y), (4, .ref (u 0)), (5, .ref (u 7)), (6, .ref (u 8)), (7, .ref (u 9)), (8, .int (nI jp)), (10, .int (-1)), (11, .int (nI (N 6))), (12, .int (sMeantTo (T 17) (i + 1))), (13, .int (nI (i + 1)))] := by rw [← e_12]; exact hl2
                exact z_widen (show 50 ≤ 50 by omega) (show 760 ≤ 760 by omega) (ih (i + 1) (by omega) (by omega)   _ _ hP hD hS ls hl2)
              · skip
                have hd0 : D i = 0 := (nI_eq (b := 0) (by omega) (by omega)).mp zc_17
                refine lv_iload hx hb dL_chats_576 (lv_at hl 0 rfl) ?_
                refine lv_iconst (v := 1) hx hb dL_chats_578 (by decide) ?_
                refine lv_icmp_eq (tgt := 595) hx hb dL_chats_579 (by decide) (fun zc_18 => ?_) (fun zc_18 => ?_)
                · skip
                  have hda : D (i + 1) = 1 := (nI_eq (b := 1) (by omega) (by omega)).mp zc_18
                  refine lv_iload hx hb dL_chats_595 (lv_at hl 0 rfl) ?_
                  refine lv_iconst (v := 1) hx hb dL_chats_597 (by decide) ?_
                  refine lv_icmp_ne (tgt := 605) hx hb dL_chats_598 (by decide) (fun zc_19 => ?_) (fun zc_19 => ?_)
                  · skip
                    exact absurd (by rw [hda]; rfl) zc_19
                  · skip
                    refine lv_iconst (v := 0) hx hb dL_chats_601 (by decide) ?_
                    refine lv_goto (tgt := 617) hx hb dL_chats_602 (by decide) ?_
                    refine lv_istore (lv' := [(12, .int 0), (14, .int (nI (D (i + 1)))), (0, .ref (r 0)), (1, .int act), (2, .int x), (3, .int y), (4, .ref (u 0)), (5, .ref (u 7)), (6, .ref (u 8)), (7, .ref (u 9)), (8, .int (nI jp)), (10, .int (-1)), (11, .int (nI (N 6))), (13, .int (nI i))]) hx hb dL_chats_617 hl (by decide) rfl (fun ls hl => ?_)
                    refine lv_iinc (v := (nI (i + 1))) (lv' := [(13, .int (nI (i + 1))), (12, .int 0), (14, .int (nI (D (i + 1)))), (0, .ref (r 0)), (1, .int act), (2, .int x), (3, .int y), (4, .ref (u 0)), (5, .ref (u 7)), (6, .ref (u 8)), (7, .ref (u 9)), (8, .int (nI jp)), (10, .int (-1)), (11, .int (nI (N 6)))]) hx hb dL_chats_619 hl (k := 13) rfl (by first | exact nI_1 _ | rfl) (by decide) rfl (fun ls hl => ?_)
                    refine lv_goto (tgt := 531) hx hb dL_chats_622 (by decide) ?_
                    have hl2 := lv_sub (l' := [(0, .ref (r 0)), (1, .int act), (2, .int x), (3, .int y), (4, .ref (u 0)), (5, .ref (u 7)), (6, .ref (u 8)), (7, .ref (u 9)), (8, .int (nI jp)), (10, .int (-1)), (11, .int (nI (N 6))), (12, .int 0), (13, .int (nI (i + 1)))]) hl [3, 4, 5, 6, 7, 8, 9, 10, 11, 12, 13, 1, 0] rfl
                    have e_12 : 0 = sMeantTo (T 17) (i + 1) := by rw [sMw hDt hi1]; simp [hd0, hda]
                    have hl2 : lv_has ls 17 [(0, .ref (r 0)), (1, .int act), (2, .int x), (3, .int y), (4, .ref (u 0)), (5, .ref (u 7)), (6, .ref (u 8)), (7, .ref (u 9)), (8, .int (nI jp)), (10, .int (-1)), (11, .int (nI (N 6))), (12, .int (sMeantTo (T 17) (i + 1))), (13, .int (nI (i + 1)))] := by rw [← e_12]; exact hl2
                    exact z_widen (show 50 ≤ 50 by omega) (show 760 ≤ 760 by omega) (ih (i + 1) (by omega) (by omega)   _ _ hP hD hS ls hl2)
                · skip
                  have hda : ¬ D (i + 1) = 1 := fun z => zc_18 (by rw [z]; rfl)
                  refine lv_iload hx hb dL_chats_582 (lv_at hl 0 rfl) ?_
                  refine lv_iconst (v := 2) hx hb dL_chats_584 (by decide) ?_
                  refine lv_icmp_eq (tgt := 595) hx hb dL_chats_585 (by decide) (fun zc_20 => ?_) (fun zc_20 => ?_)
                  · skip
                    have hdb : D (i + 1) = 2 := (nI_eq (b := 2) (by omega) (by omega)).mp zc_20
                    refine lv_iload hx hb dL_chats_595 (lv_at hl 0 rfl) ?_
                    refine lv_iconst (v := 1) hx hb dL_chats_597 (by decide) ?_
                    refine lv_icmp_ne (tgt := 605) hx hb dL_chats_598 (by decide) (fun zc_21 => ?_) (fun zc_21 => ?_)
                    · skip
                      refine lv_iload hx hb dL_chats_605 (lv_at hl 0 rfl) ?_
                      refine lv_iconst (v := 2) hx hb dL_chats_607 (by decide) ?_
                      refine lv_icmp_ne (tgt := 616) hx hb dL_chats_608 (by decide) (fun zc_22 => ?_) (fun zc_22 => ?_)
                      · skip
                        exact absurd (by rw [hdb]; rfl) zc_22
                      · skip
                        refine lv_bipush (v := 8) hx hb dL_chats_611 (by decide) ?_
                        refine lv_goto (tgt := 617) hx hb dL_chats_613 (by decide) ?_
                        refine lv_istore (lv' := [(12, .int 8), (14, .int (nI (D (i + 1)))), (0, .ref (r 0)), (1, .int act), (2, .int x), (3, .int y), (4, .ref (u 0)), (5, .ref (u 7)), (6, .ref (u 8)), (7, .ref (u 9)), (8, .int (nI jp)), (10, .int (-1)), (11, .int (nI (N 6))), (13, .int (nI i))]) hx hb dL_chats_617 hl (by decide) rfl (fun ls hl => ?_)
                        refine lv_iinc (v := (nI (i + 1))) (lv' := [(13, .int (nI (i + 1))), (12, .int 8), (14, .int (nI (D (i + 1)))), (0, .ref (r 0)), (1, .int act), (2, .int x), (3, .int y), (4, .ref (u 0)), (5, .ref (u 7)), (6, .ref (u 8)), (7, .ref (u 9)), (8, .int (nI jp)), (10, .int (-1)), (11, .int (nI (N 6)))]) hx hb dL_chats_619 hl (k := 13) rfl (by first | exact nI_1 _ | rfl) (by decide) rfl (fun ls hl => ?_)
                        refine lv_goto (tgt := 531) hx hb dL_chats_622 (by decide) ?_
                        have hl2 := lv_sub (l' := [(0, .ref (r 0)), (1, .int act), (2, .int x), (3, .int y), (4, .ref (u 0)), (5, .ref (u 7)), (6, .ref (u 8)), (7, .ref (u 9)), (8, .int (nI jp)), (10, .int (-1)), (11, .int (nI (N 6))), (12, .int 8), (13, .int (nI (i + 1)))]) hl [3, 4, 5, 6, 7, 8, 9, 10, 11, 12, 13, 1, 0] rfl
                        have e_12 : 8 = sMeantTo (T 17) (i + 1) := by rw [sMw hDt hi1]; simp [hd0, hdb]
                        have hl2 : lv_has ls 17 [(0, .ref (r 0)), (1, .int act), (2, .int x), (3, .int y), (4, .ref (u 0)), (5, .ref (u 7)), (6, .ref (u 8)), (7, .ref (u 9)), (8, .int (nI jp)), (10, .int (-1)), (11, .int (nI (N 6))), (12, .int (sMeantTo (T 17) (i + 1))), (13, .int (nI (i + 1)))] := by rw [← e_12]; exact hl2
                        exact z_widen (show 50 ≤ 50 by omega) (show 760 ≤ 760 by omega) (ih (i + 1) (by omega) (by omega)   _ _ hP hD hS ls hl2)
                    · skip
                      exact absurd ((nI_eq (b := 1) (by omega) (by omega)).mp zc_21) (by omega)
                  · skip
                    have hdb : ¬ D (i + 1) = 2 := fun z => zc_20 (by rw [z]; rfl)
                    refine lv_iload hx hb dL_chats_588 (lv_at hl 0 rfl) ?_
                    refine lv_bipush (v := 7) hx hb dL_chats_590 (by decide) ?_
                    refine lv_icmp_ne (tgt := 619) hx hb dL_chats_592 (by decide) (fun zc_23 => ?_) (fun zc_23 => ?_)
                    · skip
                      have hdc : ¬ D (i + 1) = 7 := fun z => zc_23 (by rw [z]; rfl)
                      refine lv_iinc (v := (nI (i + 1))) (lv' := [(13, .int (nI (i + 1))), (14, .int (nI (D (i + 1)))), (0, .ref (r 0)), (1, .int act), (2, .int x), (3, .int y), (4, .ref (u 0)), (5, .ref (u 7)), (6, .ref (u 8)), (7, .ref (u 9)), (8, .int (nI jp)), (10, .int (-1)), (11, .int (nI (N 6))), (12, .int (sMeantTo (T 17) i))]) hx hb dL_chats_619 hl (k := 13) rfl (by first | exact nI_1 _ | rfl) (by decide) rfl (fun ls hl => ?_)
                      refine lv_goto (tgt := 531) hx hb dL_chats_622 (by decide) ?_
                      have hl2 := lv_sub (l' := [(0, .ref (r 0)), (1, .int act), (2, .int x), (3, .int y), (4, .ref (u 0)), (5, .ref (u 7)), (6, .ref (u 8)), (7, .ref (u 9)), (8, .int (nI jp)), (10, .int (-1)), (11, .int (nI (N 6))), (12, .int (sMeantTo (T 17) i)), (13, .int (nI (i + 1)))]) hl [2, 3, 4, 5, 6, 7, 8, 9, 10, 11, 12, 13, 0] rfl
                      have e_12 : sMeantTo (T 17) i = sMeantTo (T 17) (i + 1) := by rw [sMw hDt hi1, if_neg (fun z => z.2.elim hda (fun z => z.elim hdb hdc))]
                      have hl2 : lv_has ls 17 [(0, .ref (r 0)), (1, .int act), (2, .int x), (3, .int y), (4, .ref (u 0)), (5, .ref (u 7)), (6, .ref (u 8)), (7, .ref (u 9)), (8, .int (nI jp)), (10, .int (-1)), (11, .int (nI (N 6))), (12, .int (sMeantTo (T 17) (i + 1))), (13, .int (nI (i + 1)))] := by rw [← e_12]; exact hl2
                      exact z_widen (show 50 ≤ 50 by omega) (show 760 ≤ 760 by omega) (ih (i + 1) (by omega) (by omega)   _ _ hP hD hS ls hl2)
                    · skip
                      have hdc : D (i + 1) = 7 := (nI_eq (b := 7) (by omega) (by omega)).mp zc_23
                      refine lv_iload hx hb dL_chats_595 (lv_at hl 0 rfl) ?_
                      refine lv_iconst (v := 1) hx hb dL_chats_597 (by decide) ?_
                      refine lv_icmp_ne (tgt := 605) hx hb dL_chats_598 (by decide) (fun zc_24 => ?_) (fun zc_24 => ?_)
                      · skip
                        refine lv_iload hx hb dL_chats_605 (lv_at hl 0 rfl) ?_
                        refine lv_iconst (v := 2) hx hb dL_chats_607 (by decide) ?_
                        refine lv_icmp_ne (tgt := 616) hx hb dL_chats_608 (by decide) (fun zc_25 => ?_) (fun zc_25 => ?_)
                        · skip
                          refine lv_iconst (v := 1) hx hb dL_chats_616 (by decide) ?_
                          refine lv_istore (lv' := [(12, .int 1), (14, .int (nI (D (i + 1)))), (0, .ref (r 0)), (1, .int act), (2, .int x), (3, .int y), (4, .ref (u 0)), (5, .ref (u 7)), (6, .ref (u 8)), (7, .ref (u 9)), (8, .int (nI jp)), (10, .int (-1)), (11, .int (nI (N 6))), (13, .int (nI i))]) hx hb dL_chats_617 hl (by decide) rfl (fun ls hl => ?_)
                          refine lv_iinc (v := (nI (i + 1))) (lv' := [(13, .int (nI (i + 1))), (12, .int 1), (14, .int (nI (D (i + 1)))), (0, .ref (r 0)), (1, .int act), (2, .int x), (3, .int y), (4, .ref (u 0)), (5, .ref (u 7)), (6, .ref (u 8)), (7, .ref (u 9)), (8, .int (nI jp)), (10, .int (-1)), (11, .int (nI (N 6)))]) hx hb dL_chats_619 hl (k := 13) rfl (by first | exact nI_1 _ | rfl) (by decide) rfl (fun ls hl => ?_)
                          refine lv_goto (tgt := 531) hx hb dL_chats_622 (by decide) ?_
                          have hl2 := lv_sub (l' := [(0, .ref (r 0)), (1, .int act), (2, .int x), (3, .int y), (4, .ref (u 0)), (5, .ref (u 7)), (6, .ref (u 8)), (7, .ref (u 9)), (8, .int (nI jp)), (10, .int (-1)), (11, .int (nI (N 6))), (12, .int 1), (13, .int (nI (i + 1)))]) hl [3, 4, 5, 6, 7, 8, 9, 10, 11, 12, 13, 1, 0] rfl
                          have e_12 : 1 = sMeantTo (T 17) (i + 1) := by rw [sMw hDt hi1]; simp [hd0, hdc]
                          have hl2 : lv_has ls 17 [(0, .ref (r 0)), (1, .int act), (2, .int x), (3, .int y), (4, .ref (u 0)), (5, .ref (u 7)), (6, .ref (u 8)), (7, .ref (u 9)), (8, .int (nI jp)), (10, .int (-1)), (11, .int (nI (N 6))), (12, .int (sMeantTo (T 17) (i + 1))), (13, .int (nI (i + 1)))] := by rw [← e_12]; exact hl2
                          exact z_widen (show 50 ≤ 50 by omega) (show 760 ≤ 760 by omega) (ih (i + 1) (by omega) (by omega)   _ _ hP hD hS ls hl2)
                        · skip
                          exact absurd ((nI_eq (b := 2) (by omega) (by omega)).mp zc_25) (by omega)
                      · skip
                        exact absurd ((nI_eq (b := 1) (by omega) (by omega)).mp zc_24) (by omega)
        exact z_widen (show 30 ≤ 50 by omega) (show 700 ≤ 760 by omega) (key_531 ((N 4 - 1) + 1) 0 (Nat.zero_le _) (by omega)   _ _ hP hD hS ls (lv_sub hl [3, 4, 5, 6, 7, 8, 9, 10, 11, 12, 2, 1, 0] rfl))
      · skip
        have h12 : N 5 = 12 := (nI_eq (b := 12) (by omega) (by omega)).mp zc_7
        refine lv_aload_n hx hb dL_chats_472 rfl (lv_at hl 0 rfl) ?_
        refine lv_bipush (v := 12) hx hb dL_chats_473 (by decide) ?_
        have hkz_475 : sK1 (sIx (12 : Int32) (N 5)) = 1 := (sK1_1' (by rw [h12]; decide))
        refine z_xR (G := G) (w := w) (c2 := 32) (s2 := 712) (vx_runSX (hh := [(0, 6, 9, 14)]) (As := [.ref (r 0), .int 12]) (rest := []) ⟨hx, hb, hml, hown, hts⟩ (h_signs l hst G d r A mc g N T w K (12 : Int32) H.size hC hJ.1.1 (by omega) ) (vx_cwSW 2 hts gL_chats_L_signs rfl rfl rfl (by decide +kernel) ⟨Nat.le_of_ble_eq_true rfl, Nat.le_of_ble_eq_true rfl⟩) (z_hs hK (z_apR hP) (z_dR hD) hZ hLx hS hA) rfl rfl hl.1 rfl (lv_room (Nat.le_of_ble_eq_true rfl)) dL_chats_475 ⟨(show 30 + 2 ≤ 600 by omega), (show 700 + 12 ≤ 3600 by omega)⟩) hP hD hS hA (show 30 + 2 ≤ 32 by omega) (show 700 + 12 ≤ 712 by omega) (fun rz_26 zw_26 Hz Lz hq hP hD hS => ?_)
        obtain ⟨hr9, hw9⟩ := hq.2 (by rw [hkz_475]; decide)
        rw [hw9] at hP hD
        rw [hr9, show zCx [-7100] (sK1 (sIx (12 : Int32) (N 5))) = (-7100) from by rw [hkz_475]; rfl]
        refine lv_sipush (v := (-7100)) hx hb dL_chats_478 (by decide) ?_
        refine lv_icmp_ne (tgt := 488) hx hb dL_chats_481 (by decide) (fun zc_27 => absurd zc_27 (by decide)) (fun _ => ?_)
        refine lv_iconst (v := 1) hx hb dL_chats_484 (by decide) ?_
        refine lv_goto (tgt := 489) hx hb dL_chats_485 (by decide) ?_
        exact z_widen (k := 600) (n := 3600) (show 32 ≤ 600 by omega) (show 712 ≤ 3600 by omega) (W.zret (v := 1) hx hb hr rfl (fun t ht hW => ⟨⟨1, (([(u 0, .inl (G.2 1, 64, .inr (.inl E))), (u 1, .inl (G.2 0, 8, .inl (F 1))), (u 2, .inl (G.2 0, 3, .inl (F 2))), (u 3, .inl (G.2 0, 3, .inl (F 3))), (u 4, .inl (G.2 0, 40, .inl (F 4))), (u 5, .inl (G.2 0, 40, .inl (F 5))), (u 6, .inl (G.2 0, 9, .inl (F 6))), (u 7, .inl (G.2 0, 12, .inl (F 7))), (u 8, .inl (G.2 0, 12, .inl (F 8))), (u 9, .inl (G.2 0, 10, .inl (F 9)))] : va_W) ++ w), rfl, ⟨rfl, N, T, E, F, w, rfl, ⟨A, mc, g, hC⟩, hR, (hJ.mono (by omega))⟩, ⟨by rw [ht]; exact hP, hD⟩⟩, hS.F ht⟩) hS.2.2 dL_chats_489 hlocks)
    · skip
      have zc_6 := zb_0.mp zc_6
      have hgz := zc_6
      refine lv_aload_n hx hb dL_chats_442 rfl (lv_at hl 0 rfl) ?_
      refine lv_iload hx hb dL_chats_443 (lv_at hl 8 rfl) ?_
      refine lv_iload hx hb dL_chats_445 (lv_at hl 9 rfl) ?_
      have hkz_447 : sK2 ((sIx (nI jp) 9) && (decide ((-1 : Int32) = -1) || sIx (-1 : Int32) (N 6))) (((decide (T 2 (nI jp).toNatClampNeg = 0)) && (sGood (T 17) (N 4))) && !decide (N 5 = 60)) = 2 := (sK2_2' (sAnd_y (sIx_y hjp (by omega)) (show (decide ((-1 : Int32) = -1) || sIx (-1 : Int32) (N 6)) = true from rfl)) (sAnd_l (sAnd_r hgz)))
      have hzb_447 : (8 + zmc (sK2 ((sIx (nI jp) 9) && (decide ((-1 : Int32) = -1) || sIx (-1 : Int32) (N 6))) (((decide (T 2 (nI jp).toNatClampNeg = 0)) && (sGood (T 17) (N 4))) && !decide (N 5 = 60))) (N 1) ((nPost N T (-1 : Int32)).1 1)) ≤ 8 ∧ (200 + zms (sK2 ((sIx (nI jp) 9) && (decide ((-1 : Int32) = -1) || sIx (-1 : Int32) (N 6))) (((decide (T 2 (nI jp).toNatClampNeg = 0)) && (sGood (T 17) (N 4))) && !decide (N 5 = 60))) (N 1) ((nPost N T (-1 : Int32)).1 1)) ≤ 200 := zmc_n8 (by rw [hkz_447]; decide)
      refine z_xR (G := G) (w := w) (c2 := 38) (s2 := 900) (vx_runSX (hh := [(0, 7, 10, 14), (0, 7, 16, 18)]) (As := [.ref (r 0), .int (nI jp), .int (-1)]) (rest := []) ⟨hx, hb, hml, hown, hts⟩ (h_post l hst G d r A mc g N T w K (nI jp) (-1 : Int32) H.size hC hJ.1.1 (by omega) ) (vx_cwSW 3 hts gL_chats_L_post rfl rfl rfl (by decide +kernel) ⟨Nat.le_of_ble_eq_true rfl, Nat.le_of_ble_eq_true rfl⟩) (z_hs hK (z_apR hP) (z_dR hD) hZ hLx hS hA) rfl rfl hl.1 rfl (lv_room (Nat.le_of_ble_eq_true rfl)) dL_chats_447 ⟨(show 30 + (8 + zmc (sK2 ((sIx (nI jp) 9) && (decide ((-1 : Int32) = -1) || sIx (-1 : Int32) (N 6))) (((decide (T 2 (nI jp).toNatClampNeg = 0)) && (sGood (T 17) (N 4))) && !decide (N 5 = 60))) (N 1) ((nPost N T (-1 : Int32)).1 1)) ≤ 600 by omega), (show 700 + (200 + zms (sK2 ((sIx (nI jp) 9) && (decide ((-1 : Int32) = -1) || sIx (-1 : Int32) (N 6))) (((decide (T 2 (nI jp).toNatClampNeg = 0)) && (sGood (T 17) (N 4))) && !decide (N 5 = 60))) (N 1) ((nPost N T (-1 : Int32)).1 1)) ≤ 3600 by omega)⟩) hP hD hS hA (show 30 + (8 + zmc (sK2 ((sIx (nI jp) 9) && (decide ((-1 : Int32) = -1) || sIx (-1 : Int32) (N 6))) (((decide (T 2 (nI jp).toNatClampNeg = 0)) && (sGood (T 17) (N 4))) && !decide (N 5 = 60))) (N 1) ((nPost N T (-1 : Int32)).1 1)) ≤ 38 by omega) (show 700 + (200 + zms (sK2 ((sIx (nI jp) 9) && (decide ((-1 : Int32) = -1) || sIx (-1 : Int32) (N 6))) (((decide (T 2 (nI jp).toNatClampNeg = 0)) && (sGood (T 17) (N 4))) && !decide (N 5 = 60))) (N 1) ((nPost N T (-1 : Int32)).1 1)) ≤ 900 by omega) (fun rz_28 zw_28 Hz Lz hq hP hD hS => ?_)
      obtain ⟨hr9, hw9⟩ := hq.2 (by rw [hkz_447]; decide)
      rw [hw9] at hP hD
      rw [hr9, show zCx [-7100, -7300] (sK2 ((sIx (nI jp) 9) && (decide ((-1 : Int32) = -1) || sIx (-1 : Int32) (N 6))) (((decide (T 2 (nI jp).toNatClampNeg = 0)) && (sGood (T 17) (N 4))) && !decide (N 5 = 60))) = (-7300) from by rw [hkz_447]; rfl]
      refine lv_sipush (v := (-7300)) hx hb dL_chats_450 (by decide) ?_
      refine lv_icmp_ne (tgt := 460) hx hb dL_chats_453 (by decide) (fun zc_29 => absurd zc_29 (by decide)) (fun _ => ?_)
      refine lv_iconst (v := 1) hx hb dL_chats_456 (by decide) ?_
      refine lv_goto (tgt := 461) hx hb dL_chats_457 (by decide) ?_
      exact z_widen (k := 600) (n := 3600) (show 38 ≤ 600 by omega) (show 900 ≤ 3600 by omega) (W.zret (v := 1) hx hb hr rfl (fun t ht hW => ⟨⟨1, (([(u 0, .inl (G.2 1, 64, .inr (.inl E))), (u 1, .inl (G.2 0, 8, .inl (F 1))), (u 2, .inl (G.2 0, 3, .inl (F 2))), (u 3, .inl (G.2 0, 3, .inl (F 3))), (u 4, .inl (G.2 0, 40, .inl (F 4))), (u 5, .inl (G.2 0, 40, .inl (F 5))), (u 6, .inl (G.2 0, 9, .inl (F 6))), (u 7, .inl (G.2 0, 12, .inl (F 7))), (u 8, .inl (G.2 0, 12, .inl (F 8))), (u 9, .inl (G.2 0, 10, .inl (F 9)))] : va_W) ++ w), rfl, ⟨rfl, N, T, E, F, w, rfl, ⟨A, mc, g, hC⟩, hR, (hJ.mono (by omega))⟩, ⟨by rw [ht]; exact hP, hD⟩⟩, hS.F ht⟩) hS.2.2 dL_chats_461 hlocks)

set_option maxHeartbeats 4000000 in
set_option maxRecDepth 100000 in
theorem vchats_422b {p : Program} {l : Launch} {e : Env} {s : State} {m : MethodId} {below : List Frame} {meth : Method} {c : Code} {G : zG} {d : Nat} {r u : Nat → Nat} {act x y : Int32} {Aw : Nat → Prop} (hst : l.stackTraces = false) (hx : p.tables.exec = Jvm.exec) (hb : c.code = cL_chats) (hr : meth.sig.returnType = some .boolean) (hml : c.maxLocals = 17) (hown : s.vm.findClass RL = some m.cls) (hts : ∀ w ∈ wsL_chats, w.before ([.ref (r 0), .int act, .int x, .int y, .ref (u 0), .ref (u 7), .ref (u 8), .ref (u 9)] : List Value).toArray s = true) (hlocks : meth.locks = false) (hK : va_K G.1 vwCl (zT G.2) s) (hZ : zCe Aw d s s.heap) (hLx : zLx s) (hA : ∀ q : Nat, s.heap.size ≤ q → Aw q) {A : Nat → Nat} {mc : Nat → Int32} {g : Nat → Nat → Int32} {N : Nat → Nat} {T : Nat → Nat → Int32} {w : va_W} {E : Nat → Int64} {F : Nat → Nat → Int32} {K : Nat} (hC : sCQ G d r A mc g N T w) (hR : sLR N T E F) (hJ : sLJ N T K) (hK5 : K ≤ 400) (hh9 : N 1 ≤ 90 ∧ N 0 ≤ 1900) {jp jt : Nat} (hjp : jp < 9) (hjt : jt < N 6) {H : Heap} {locs : List Loc} (hP : va_P G.1 vwCl (([(u 0, .inl (G.2 1, 64, .inr (.inl E))), (u 1, .inl (G.2 0, 8, .inl (F 1))), (u 2, .inl (G.2 0, 3, .inl (F 2))), (u 3, .inl (G.2 0, 3, .inl (F 3))), (u 4, .inl (G.2 0, 40, .inl (F 4))), (u 5, .inl (G.2 0, 40, .inl (F 5))), (u 6, .inl (G.2 0, 9, .inl (F 6))), (u 7, .inl (G.2 0, 12, .inl (F 7))), (u 8, .inl (G.2 0, 12, .inl (F 8))), (u 9, .inl (G.2 0, 10, .inl (F 9)))] : va_W) ++ w) H) (hD : va_D Aw (([(u 0, .inl (G.2 1, 64, .inr (.inl E))), (u 1, .inl (G.2 0, 8, .inl (F 1))), (u 2, .inl (G.2 0, 3, .inl (F 2))), (u 3, .inl (G.2 0, 3, .inl (F 3))), (u 4, .inl (G.2 0, 40, .inl (F 4))), (u 5, .inl (G.2 0, 40, .inl (F 5))), (u 6, .inl (G.2 0, 9, .inl (F 6))), (u 7, .inl (G.2 0, 12, .inl (F 7))), (u 8, .inl (G.2 0, 12, .inl (F 8))), (u 9, .inl (G.2 0, 10, .inl (F 9)))] : va_W) ++ w)) (hS : va_S Aw s.heap H locs) {ls : Array Slot} (hl : lv_has ls 17 [(0, .ref (r 0)), (1, .int act), (2, .int x), (3, .int y), (4, .ref (u 0)), (5, .ref (u 7)), (6, .ref (u 8)), (7, .ref (u 9)), (8, .int (nI jp)), (10, .int (nI jt))]) : W p l e (headSpec wsL_chats ({ frames := 9, cells := 600, slots := 3600, locals := 219 })).room s m ([.ref (r 0), .int act, .int x, .int y, .ref (u 0), .ref (u 7), .ref (u 8), .ref (u 9)] : List Value).toArray below meth c H locs 30 700 (MQ below (va_Qi (fun (r1 : Int32) (wz : va_W) => r1 = 1 ∧ ∃ (N2 : Nat → Nat) (T2 : Nat → Nat → Int32) (E2 : Nat → Int64) (F2 : Nat → Nat → Int32) (w2 : va_W), wz = LW G u E2 F2 ++ w2 ∧ sCO G d r N2 T2 w2 ∧ sLR N2 T2 E2 F2 ∧ sLJ N2 T2 (K + 2)) (zB G Aw) Aw) ([.ref (r 0), .int act, .int x, .int y, .ref (u 0), .ref (u 7), .ref (u 8), .ref (u 9)] : List Value).toArray s 600 3600 Aw) (F0 m 422 ls []) := by
  have hQ := hR.q hJ
  obtain ⟨hg0, hg1, hg2, hg3, hg4, hg5, hg6, hg7, hg8⟩ := hR.2.2.2.2.2.2.2.2.2
  obtain ⟨⟨hb1, hb0, hb3, hb4, hb5⟩, hlv, hlm, hLH⟩ := id hJ.2
  obtain ⟨⟨hi0, hi2, hi3, hi4, hi5, hi6, hi1⟩, hiB, hiE, hiT, hiA, hiA0, hiM, hiK, hiK0, hiX⟩ := id hJ.1.1
  have hLG := hJ.1.2
  have hS0z : va_S Aw s.heap s.heap [] := va_S.rf
  refine lv_aload hx hb dL_chats_422 (lv_at hl 4 rfl) ?_
  refine lv_aload hx hb dL_chats_424 (lv_at hl 7 rfl) ?_
  refine lv_iload hx hb dL_chats_426 (lv_at hl 8 rfl) ?_
  refine z_csi (va_Run.run (va_runS (As := [.ref (u 0), .ref (u 9), .int (nI jp)]) (rest := []) ⟨hx, hb, hml, hown, hts⟩ (c_L_hasLeft l G u E F N T (nI jp) hQ (by first | assumption | omega | exact vp_in_nI (by omega) (by omega))) (va_cwS 3 hts gL_chats_L_hasLeft rfl rfl rfl (by decide +kernel) ⟨Nat.le_of_ble_eq_true rfl, Nat.le_of_ble_eq_true rfl⟩) (z_ps hK (z_apL hP)) rfl rfl hl.1 rfl (lv_room (Nat.le_of_ble_eq_true rfl)) dL_chats_428 ⟨(show 30 + 0 ≤ 600 by omega), (show 700 + 0 ≤ 3600 by omega)⟩)) (fun zr_1 hzr_1 => ?_)
  subst hzr_1
  refine lv_if_ne (tgt := 442) hx hb dL_chats_431 (by decide) (fun zc_2 => ?_) (fun zc_2 => ?_)
  · skip
    have hlf := zc_2
    refine lv_aload_n hx hb dL_chats_442 rfl (lv_at hl 0 rfl) ?_
    refine lv_iload hx hb dL_chats_443 (lv_at hl 8 rfl) ?_
    refine lv_iload hx hb dL_chats_445 (lv_at hl 9 rfl) ?_
    have hkz_447 : sK2 ((sIx (nI jp) 9) && (decide ((nI jt) = -1) || sIx (nI jt) (N 6))) (((decide (T 2 (nI jp).toNatClampNeg = 0)) && (sGood (T 17) (N 4))) && !decide (N 5 = 60)) = 2 := (sK2_2' (sAnd_y (sIx_y hjp (by omega)) (show (decide ((nI jt) = -1) || sIx (nI jt) (N 6)) = true from (by rw [sIx_y hjt (by omega), Bool.or_true]))) (sAnd_l (sAnd_l (decide_eq_false hlf))))
    have hzb_447 : (8 + zmc (sK2 ((sIx (nI jp) 9) && (decide ((nI jt) = -1) || sIx (nI jt) (N 6))) (((decide (T 2 (nI jp).toNatClampNeg = 0)) && (sGood (T 17) (N 4))) && !decide (N 5 = 60))) (N 1) ((nPost N T (nI jt)).1 1)) ≤ 8 ∧ (200 + zms (sK2 ((sIx (nI jp) 9) && (decide ((nI jt) = -1) || sIx (nI jt) (N 6))) (((decide (T 2 (nI jp).toNatClampNeg = 0)) && (sGood (T 17) (N 4))) && !decide (N 5 = 60))) (N 1) ((nPost N T (nI jt)).1 1)) ≤ 200 := zmc_n8 (by rw [hkz_447]; decide)
    refine z_xR (G := G) (w := w) (c2 := 38) (s2 := 900) (vx_runSX (hh := [(0, 7, 10, 14), (0, 7, 16, 18)]) (As := [.ref (r 0), .int (nI jp), .int (nI jt)]) (rest := []) ⟨hx, hb, hml, hown, hts⟩ (h_post l hst G d r A mc g N T w K (nI jp) (nI jt) H.size hC hJ.1.1 (by omega) ) (vx_cwSW 3 hts gL_chats_L_post rfl rfl rfl (by decide +kernel) ⟨Nat.le_of_ble_eq_true rfl, Nat.le_of_ble_eq_true rfl⟩) (z_hs hK (z_apR hP) (z_dR hD) hZ hLx hS hA) rfl rfl hl.1 rfl (lv_room (Nat.le_of_ble_eq_true rfl)) dL_chats_447 ⟨(show 30 + (8 + zmc (sK2 ((sIx (nI jp) 9) && (decide ((nI jt) = -1) || sIx (nI jt) (N 6))) (((decide (T 2 (nI jp).toNatClampNeg = 0)) && (sGood (T 17) (N 4))) && !decide (N 5 = 60))) (N 1) ((nPost N T (nI jt)).1 1)) ≤ 600 by omega), (show 700 + (200 + zms (sK2 ((sIx (nI jp) 9) && (decide ((nI jt) = -1) || sIx (nI jt) (N 6))) (((decide (T 2 (nI jp).toNatClampNeg = 0)) && (sGood (T 17) (N 4))) && !decide (N 5 = 60))) (N 1) ((nPost N T (nI jt)).1 1)) ≤ 3600 by omega)⟩) hP hD hS hA (show 30 + (8 + zmc (sK2 ((sIx (nI jp) 9) && (decide ((nI jt) = -1) || sIx (nI jt) (N 6))) (((decide (T 2 (nI jp).toNatClampNeg = 0)) && (sGood (T 17) (N 4))) && !decide (N 5 = 60))) (N 1) ((nPost N T (nI jt)).1 1)) ≤ 38 by omega) (show 700 + (200 + zms (sK2 ((sIx (nI jp) 9) && (decide ((nI jt) = -1) || sIx (nI jt) (N 6))) (((decide (T 2 (nI jp).toNatClampNeg = 0)) && (sGood (T 17) (N 4))) && !decide (N 5 = 60))) (N 1) ((nPost N T (nI jt)).1 1)) ≤ 900 by omega) (fun rz_3 zw_3 Hz Lz hq hP hD hS => ?_)
    obtain ⟨hr9, hw9⟩ := hq.2 (by rw [hkz_447]; decide)
    rw [hw9] at hP hD
    rw [hr9, show zCx [-7100, -7300] (sK2 ((sIx (nI jp) 9) && (decide ((nI jt) = -1) || sIx (nI jt) (N 6))) (((decide (T 2 (nI jp).toNatClampNeg = 0)) && (sGood (T 17) (N 4))) && !decide (N 5 = 60))) = (-7300) from by rw [hkz_447]; rfl]
    refine lv_sipush (v := (-7300)) hx hb dL_chats_450 (by decide) ?_
    refine lv_icmp_ne (tgt := 460) hx hb dL_chats_453 (by decide) (fun zc_4 => absurd zc_4 (by decide)) (fun _ => ?_)
    refine lv_iconst (v := 1) hx hb dL_chats_456 (by decide) ?_
    refine lv_goto (tgt := 461) hx hb dL_chats_457 (by decide) ?_
    exact z_widen (k := 600) (n := 3600) (show 38 ≤ 600 by omega) (show 900 ≤ 3600 by omega) (W.zret (v := 1) hx hb hr rfl (fun t ht hW => ⟨⟨1, (([(u 0, .inl (G.2 1, 64, .inr (.inl E))), (u 1, .inl (G.2 0, 8, .inl (F 1))), (u 2, .inl (G.2 0, 3, .inl (F 2))), (u 3, .inl (G.2 0, 3, .inl (F 3))), (u 4, .inl (G.2 0, 40, .inl (F 4))), (u 5, .inl (G.2 0, 40, .inl (F 5))), (u 6, .inl (G.2 0, 9, .inl (F 6))), (u 7, .inl (G.2 0, 12, .inl (F 7))), (u 8, .inl (G.2 0, 12, .inl (F 8))), (u 9, .inl (G.2 0, 10, .inl (F 9)))] : va_W) ++ w), rfl, ⟨rfl, N, T, E, F, w, rfl, ⟨A, mc, g, hC⟩, hR, (hJ.mono (by omega))⟩, ⟨by rw [ht]; exact hP, hD⟩⟩, hS.F ht⟩) hS.2.2 dL_chats_461 hlocks)
  · skip
    have hlf := zc_2
    refine lv_aload hx hb dL_chats_434 (lv_at hl 7 rfl) ?_
    refine z_csi (va_Run.run (va_runS (As := [.ref (u 9)]) (rest := []) ⟨hx, hb, hml, hown, hts⟩ (c_L_isWhole l G u E F N T hR.2.2.2.2.2.2.2.2.1 hg8 hb4) (va_cwS 1 hts gL_chats_L_isWhole rfl rfl rfl (by decide +kernel) ⟨Nat.le_of_ble_eq_true rfl, Nat.le_of_ble_eq_true rfl⟩) (z_ps hK (z_apL hP)) rfl rfl hl.1 rfl (lv_room (Nat.le_of_ble_eq_true rfl)) dL_chats_436 ⟨(show 30 + 0 ≤ 600 by omega), (show 700 + 0 ≤ 3600 by omega)⟩)) (fun zr_5 hzr_5 => ?_)
    subst hzr_5
    refine lv_if_ne (tgt := 462) hx hb dL_chats_439 (by decide) (fun zc_6 => ?_) (fun zc_6 => ?_)
    · skip
      have zc_6 := zb_n0 zc_6
      have hgz := zc_6
      refine lv_aload hx hb dL_chats_462 (lv_at hl 7 rfl) ?_
      refine lv_bipush (v := 6) hx hb dL_chats_464 (by decide) ?_
      refine va_iald hx hb hK (z_apL hP) 9 0 rfl rfl (vp_in_nI (n := 6) (by decide) (by decide)) dL_chats_466 ?_
      refine W.eq (g2 := F0 m 467 ls [.int (nI (N 5))]) (by rw [show (F 9) (6 : Int32).toNatClampNeg = nI (N 5) from hg6]) ?_
      refine lv_bipush (v := 12) hx hb dL_chats_467 (by decide) ?_
      refine lv_icmp_ne (tgt := 490) hx hb dL_chats_469 (by decide) (fun zc_7 => ?_) (fun zc_7 => ?_)
      · skip
        have h12 : N 5 < 12 := by have hz9 : ¬ N 5 = 12 := (fun z => zc_7 (by rw [z]; rfl)); omega
        obtain ⟨D, hDt, hx9⟩ := hR.2.2.2.2.2.2.2.2.1
        have hpos4 : 0 < N 4 := by have hz8 := hgz; rw [sGood] at hz8; exact of_decide_eq_true (sAndI (sAndI hz8).1).2
        refine lv_iload hx hb dL_chats_490 (lv_at hl 9 rfl) ?_
        refine lv_if_ge (tgt := 503) hx hb dL_chats_492 (by decide) (fun zc_8 => ?_) (fun zc_8 => ?_)
        · skip
          have zd_8 := Int32.not_lt.mpr zc_8
          refine lv_iload hx hb dL_chats_503 (lv_at hl 9 rfl) ?_
          refine lv_istore (lv' := [(11, .int (nI jt)), (0, .ref (r 0)), (1, .int act), (2, .int x), (3, .int y), (4, .ref (u 0)), (5, .ref (u 7)), (6, .ref (u 8)), (7, .ref (u 9)), (8, .int (nI jp)), (10, .int (nI jt))]) hx hb dL_chats_505 hl (by decide) rfl (fun ls hl => ?_)
          refine lv_aload hx hb dL_chats_507 (lv_at hl 8 rfl) ?_
          refine lv_bipush (v := 7) hx hb dL_chats_509 (by decide) ?_
          refine lv_dup2_11 hx hb dL_chats_511 rfl rfl ?_
          refine va_iald hx hb hK (z_apL hP) 9 0 rfl rfl (vp_in_nI (n := 7) (by decide) (by decide)) dL_chats_512 ?_
          refine W.eq (g2 := F0 m 513 ls [.int (nI (N 6)), .int 7, .ref (u 9)]) (by rw [show (F 9) (7 : Int32).toNatClampNeg = nI (N 6) from hg7]) ?_
          refine lv_iload hx hb dL_chats_513 (lv_at hl 10 rfl) ?_
          refine lv_if_ge (tgt := 522) hx hb dL_chats_515 (by decide) (fun zc_9 => ?_) (fun zc_9 => ?_)
          · skip
            have zd_9 := Int32.not_lt.mpr zc_9
            refine lv_iconst (v := 0) hx hb dL_chats_522 (by decide) ?_
            refine lv_iadd hx hb dL_chats_523 ?_
            refine W.eq (g2 := F0 m 524 ls [.int (nI (if (nI jt) = -1 then N 6 + 1 else N 6)), .int 7, .ref (u 9)]) (by first | (rw [(show (if (nI jt) = -1 then N 6 + 1 else N 6) = N 6 from if_neg (zNm1 (by omega))), Int32.add_zero]; done) | (rw [(show (if (nI jt) = -1 then N 6 + 1 else N 6) = N 6 from if_neg (zNm1 (by omega))), Int32.add_zero]; rfl)) ?_
            refine va_iast hx hb hK hP hD hS 9 0 rfl rfl (vp_in_nI (n := 7) (by decide) (by decide)) dL_chats_524 (fun Hz Lz hP hD hS => ?_)
            have hP : va_P G.1 vwCl (([(u 0, .inl (G.2 1, 64, .inr (.inl E))), (u 1, .inl (G.2 0, 8, .inl (F 1))), (u 2, .inl (G.2 0, 3, .inl (F 2))), (u 3, .inl (G.2 0, 3, .inl (F 3))), (u 4, .inl (G.2 0, 40, .inl (F 4))), (u 5, .inl (G.2 0, 40, .inl (F 5))), (u 6, .inl (G.2 0, 9, .inl (F 6))), (u 7, .inl (G.2 0, 12, .inl (F 7))), (u 8, .inl (G.2 0, 12, .inl (F 8))), (u 9, .inl (G.2 0, 10, .inl (upd (F 9) 7 (nI (if (nI jt) = -1 then N 6 + 1 else N 6)))))] : va_W) ++ w) Hz := hP
            have hD : va_D Aw (([(u 0, .inl (G.2 1, 64, .inr (.inl E))), (u 1, .inl (G.2 0, 8, .inl (F 1))), (u 2, .inl (G.2 0, 3, .inl (F 2))), (u 3, .inl (G.2 0, 3, .inl (F 3))), (u 4, .inl (G.2 0, 40, .inl (F 4))), (u 5, .inl (G.2 0, 40, .inl (F 5))), (u 6, .inl (G.2 0, 9, .inl (F 6))), (u 7, .inl (G.2 0, 12, .inl (F 7))), (u 8, .inl (G.2 0, 12, .inl (F 8))), (u 9, .inl (G.2 0, 10, .inl (upd (F 9) 7 (nI (if (nI jt) = -1 then N 6 + 1 else N 6)))))] : va_W) ++ w) := hD
            refine lv_iconst (v := (-1)) hx hb dL_chats_525 (by decide) ?_
            refine lv_istore (lv' := [(12, .int (-1)), (11, .int (nI jt)), (0, .ref (r 0)), (1, .int act), (2, .int x), (3, .int y), (4, .ref (u 0)), (5, .ref (u 7)), (6, .ref (u 8)), (7, .ref (u 9)), (8, .int (nI jp)), (10, .int (nI jt))]) hx hb dL_chats_526 hl (by decide) rfl (fun ls hl => ?_)
            refine lv_iconst (v := 0) hx hb dL_chats_528 (by decide) ?_
            refine lv_istore (lv' := [(13, .int 0), (12, .int (-1)), (11, .int (nI jt)), (0, .ref (r 0)), (1, .int act), (2, .int x), (3, .int y), (4, .ref (u 0)), (5, .ref (u 7)), (6, .ref (u 8)), (7, .ref (u 9)), (8, .int (nI jp)), (10, .int (nI jt))]) hx hb dL_chats_529 hl (by decide) rfl (fun ls hl => ?_)
            have key_531 : ∀ (n i : Nat), i ≤ (N 4 - 1) → (N 4 - 1) < i + n → ∀ (Hz : Heap) (Lz : List Loc), va_P G.1 vwCl (([(u 0, .inl (G.2 1, 64, .inr (.inl E))), (u 1, .inl (G.2 0, 8, .inl (F 1))), (u 2, .inl (G.2 0, 3, .inl (F 2))), (u 3, .inl (G.2 0, 3, .inl (F 3))), (u 4, .inl (G.2 0, 40, .inl (F 4))), (u 5, .inl (G.2 0, 40, .inl (F 5))), (u 6, .inl (G.2 0, 9, .inl (F 6))), (u 7, .inl (G.2 0, 12, .inl (F 7))), (u 8, .inl (G.2 0, 12, .inl (F 8))), (u 9, .inl (G.2 0, 10, .inl (upd (F 9) 7 (nI (if (nI jt) = -1 then N 6 + 1 else N 6)))))] : va_W) ++ w) Hz → va_D Aw (([(u 0, .inl (G.2 1, 64, .inr (.inl E))), (u 1, .inl (G.2 0, 8, .inl (F 1))), (u 2, .inl (G.2 0, 3, .inl (F 2))), (u 3, .inl (G.2 0, 3, .inl (F 3))), (u 4, .inl (G.2 0, 40, .inl (F 4))), (u 5, .inl (G.2 0, 40, .inl (F 5))), (u 6, .inl (G.2 0, 9, .inl (F 6))), (u 7, .inl (G.2 0, 12, .inl (F 7))), (u 8, .inl (G.2 0, 12, .inl (F 8))), (u 9, .inl (G.2 0, 10, .inl (upd (F 9) 7 (nI (if (nI jt) = -1 then N 6 + 1 else N 6)))))] : va_W) ++ w) → va_S Aw s.heap Hz Lz → ∀ ls : Array Slot, lv_has ls 17 [(0, .ref (r 0)), (1, .int act), (2, .int x), (3, .int y), (4, .ref (u 0)), (5, .ref (u 7)), (6, .ref (u 8)), (7, .ref (u 9)), (8, .int (nI jp)), (10, .int (nI jt)), (11, .int (nI jt)), (12, .int (sMeantTo (T 17) i)), (13, .int (nI i))] → W p l e (headSpec wsL_chats ({ frames := 9, cells := 600, slots := 3600, locals := 219 })).room s m ([.ref (r 0), .int act, .int x, .int y, .ref (u 0), .ref (u 7), .ref (u 8), .ref (u 9)] : List Value).toArray below meth c Hz Lz (50) (760) (MQ below (va_Qi (fun (r1 : Int32) (wz : va_W) => r1 = 1 ∧ ∃ (N2 : Nat → Nat) (T2 : Nat → Nat → Int32) (E2 : Nat → Int64) (F2 : Nat → Nat → Int32) (w2 : va_W), wz = LW G u E2 F2 ++ w2 ∧ sCO G d r N2 T2 w2 ∧ sLR N2 T2 E2 F2 ∧ sLJ N2 T2 (K + 2)) (zB G Aw) Aw) ([.ref (r 0), .int act, .int x, .int y, .ref (u 0), .ref (u 7), .ref (u 8), .ref (u 9)] : List Value).toArray s 600 3600 Aw) (F0 m 531 ls []) := by
              intro n
              induction n with
              | zero => intro i hi_a hi_b; exact absurd hi_b (by omega)
              | succ n ih =>
                intro i hil hin    Hz Lz hP hD hS ls hl
                refine lv_iload hx hb dL_chats_531 (lv_at hl 12 rfl) ?_
                refine lv_iconst (v := 1) hx hb dL_chats_533 (by decide) ?_
                refine lv_iadd hx hb dL_chats_534 ?_
                refine W.eq (g2 := F0 m 535 ls [.int (nI (i + 1))]) (by first | (rw [nI_1]; done) | (rw [nI_1]; rfl)) ?_
                refine lv_aload hx hb dL_chats_535 (lv_at hl 7 rfl) ?_
                refine lv_bipush (v := 8) hx hb dL_chats_537 (by decide) ?_
                refine va_iald hx hb hK (z_apL hP) 9 0 rfl rfl (vp_in_nI (n := 8) (by decide) (by decide)) dL_chats_539 ?_
                refine W.eq (g2 := F0 m 540 ls [.int (nI (N 4)), .int (nI (i + 1))]) (by rw [show (upd (F 9) 7 (nI (if (nI jt) = -1 then N 6 + 1 else N 6))) (8 : Int32).toNatClampNeg = nI (N 4) from hg8]) ?_
                refine lv_icmp_ge (tgt := 625) hx hb dL_chats_540 (by decide) (fun zc_10 => ?_) (fun zc_10 => ?_)
                · skip
                  have zd_10 := Int32.not_lt.mpr zc_10
                  have zhc : N 4 ≤ i + 1 := (nI_leI (by omega) (by omega)).mp zc_10
                  have zie : i = N 4 - 1 := by omega
                  subst zie
                  refine lv_aload hx hb dL_chats_625 (lv_at hl 5 rfl) ?_
                  refine lv_aload hx hb dL_chats_627 (lv_at hl 7 rfl) ?_
                  refine lv_bipush (v := 6) hx hb dL_chats_629 (by decide) ?_
                  refine va_iald hx hb hK (z_apL hP) 9 0 rfl rfl (vp_in_nI (n := 6) (by decide) (by decide)) dL_chats_631 ?_
                  refine W.eq (g2 := F0 m 632 ls [.int (nI (N 5)), .ref (u 7)]) (by rw [show (upd (F 9) 7 (nI (if (nI jt) = -1 then N 6 + 1 else N 6))) (6 : Int32).toNatClampNeg = nI (N 5) from hg6]) ?_
                  refine lv_aload hx hb dL_chats_632 (lv_at hl 7 rfl) ?_
                  refine lv_bipush (v := 8) hx hb dL_chats_634 (by decide) ?_
                  refine va_iald hx hb hK (z_apL hP) 9 0 rfl rfl (vp_in_nI (n := 8) (by decide) (by decide)) dL_chats_636 ?_
                  refine W.eq (g2 := F0 m 637 ls [.int (nI (N 4)), .int (nI (N 5)), .ref (u 7)]) (by rw [show (upd (F 9) 7 (nI (if (nI jt) = -1 then N 6 + 1 else N 6))) (8 : Int32).toNatClampNeg = nI (N 4) from hg8]) ?_
                  refine lv_bipush (v := 16) hx hb dL_chats_637 (by decide) ?_
                  refine lv_aload hx hb dL_chats_639 (lv_at hl 7 rfl) ?_
                  refine lv_bipush (v := 9) hx hb dL_chats_641 (by decide) ?_
                  refine va_iald hx hb hK (z_apL hP) 9 0 rfl rfl (vp_in_nI (n := 9) (by decide) (by decide)) dL_chats_643 ?_
                  refine W.eq (g2 := F0 m 644 ls [.int (F 9 9), .int 16, .int (nI (N 4)), .int (nI (N 5)), .ref (u 7)]) (by rw [show (upd (F 9) 7 (nI (if (nI jt) = -1 then N 6 + 1 else N 6))) (9 : Int32).toNatClampNeg = F 9 9 from rfl]) ?_
                  refine lv_imul hx hb dL_chats_644 ?_
                  refine W.eq (g2 := F0 m 645 ls [.int (16 * nI (sP8 D (N 4))), .int (nI (N 4)), .int (nI (N 5)), .ref (u 7)]) (by first | (rw [hx9]; done) | (rw [hx9]; rfl)) ?_
                  refine lv_iadd hx hb dL_chats_645 ?_
                  refine W.eq (g2 := F0 m 646 ls [.int (nI (N 4 + 16 * sP8 D (N 4))), .int (nI (N 5)), .ref (u 7)]) (by first | (rw [show (16 : Int32) = nI 16 from rfl, pk_mul, nI_add]; done) | (rw [show (16 : Int32) = nI 16 from rfl, pk_mul, nI_add]; rfl)) ?_
                  refine va_iast hx hb hK hP hD hS 7 0 rfl rfl (vp_in_nI (by omega) (by omega)) dL_chats_646 (fun Hz Lz hP hD hS => ?_)
                  rw [nI_clamp (by omega)] at hP hD
                  have hP : va_P G.1 vwCl (([(u 0, .inl (G.2 1, 64, .inr (.inl E))), (u 1, .inl (G.2 0, 8, .inl (F 1))), (u 2, .inl (G.2 0, 3, .inl (F 2))), (u 3, .inl (G.2 0, 3, .inl (F 3))), (u 4, .inl (G.2 0, 40, .inl (F 4))), (u 5, .inl (G.2 0, 40, .inl (F 5))), (u 6, .inl (G.2 0, 9, .inl (F 6))), (u 7, .inl (G.2 0, 12, .inl (upd (F 7) (N 5) (nI (N 4 + 16 * sP8 D (N 4)))))), (u 8, .inl (G.2 0, 12, .inl (F 8))), (u 9, .inl (G.2 0, 10, .inl (upd (F 9) 7 (nI (if (nI jt) = -1 then N 6 + 1 else N 6)))))] : va_W) ++ w) Hz := hP
                  have hD : va_D Aw (([(u 0, .inl (G.2 1, 64, .inr (.inl E))), (u 1, .inl (G.2 0, 8, .inl (F 1))), (u 2, .inl (G.2 0, 3, .inl (F 2))), (u 3, .inl (G.2 0, 3, .inl (F 3))), (u 4, .inl (G.2 0, 40, .inl (F 4))), (u 5, .inl (G.2 0, 40, .inl (F 5))), (u 6, .inl (G.2 0, 9, .inl (F 6))), (u 7, .inl (G.2 0, 12, .inl (upd (F 7) (N 5) (nI (N 4 + 16 * sP8 D (N 4)))))), (u 8, .inl (G.2 0, 12, .inl (F 8))), (u 9, .inl (G.2 0, 10, .inl (upd (F 9) 7 (nI (if (nI jt) = -1 then N 6 + 1 else N 6)))))] : va_W) ++ w) := hD
                  refine lv_aload hx hb dL_chats_647 (lv_at hl 6 rfl) ?_
                  refine lv_aload hx hb dL_chats_649 (lv_at hl 7 rfl) ?_
                  refine lv_bipush (v := 6) hx hb dL_chats_651 (by decide) ?_
                  refine va_iald hx hb hK (z_apL hP) 9 0 rfl rfl (vp_in_nI (n := 6) (by decide) (by decide)) dL_chats_653 ?_
                  refine W.eq (g2 := F0 m 654 ls [.int (nI (N 5)), .ref (u 8)]) (by rw [show (upd (F 9) 7 (nI (if (nI jt) = -1 then N 6 + 1 else N 6))) (6 : Int32).toNatClampNeg = nI (N 5) from hg6]) ?_
                  refine lv_iload hx hb dL_chats_654 (lv_at hl 10 rfl) ?_
                  refine va_iast hx hb hK hP hD hS 8 0 rfl rfl (vp_in_nI (by omega) (by omega)) dL_chats_656 (fun Hz Lz hP hD hS => ?_)
                  rw [nI_clamp (by omega)] at hP hD
                  have hP : va_P G.1 vwCl (([(u 0, .inl (G.2 1, 64, .inr (.inl E))), (u 1, .inl (G.2 0, 8, .inl (F 1))), (u 2, .inl (G.2 0, 3, .inl (F 2))), (u 3, .inl (G.2 0, 3, .inl (F 3))), (u 4, .inl (G.2 0, 40, .inl (F 4))), (u 5, .inl (G.2 0, 40, .inl (F 5))), (u 6, .inl (G.2 0, 9, .inl (F 6))), (u 7, .inl (G.2 0, 12, .inl (upd (F 7) (N 5) (nI (N 4 + 16 * sP8 D (N 4)))))), (u 8, .inl (G.2 0, 12, .inl (upd (F 8) (N 5) (nI jt)))), (u 9, .inl (G.2 0, 10, .inl (upd (F 9) 7 (nI (if (nI jt) = -1 then N 6 + 1 else N 6)))))] : va_W) ++ w) Hz := hP
                  have hD : va_D Aw (([(u 0, .inl (G.2 1, 64, .inr (.inl E))), (u 1, .inl (G.2 0, 8, .inl (F 1))), (u 2, .inl (G.2 0, 3, .inl (F 2))), (u 3, .inl (G.2 0, 3, .inl (F 3))), (u 4, .inl (G.2 0, 40, .inl (F 4))), (u 5, .inl (G.2 0, 40, .inl (F 5))), (u 6, .inl (G.2 0, 9, .inl (F 6))), (u 7, .inl (G.2 0, 12, .inl (upd (F 7) (N 5) (nI (N 4 + 16 * sP8 D (N 4)))))), (u 8, .inl (G.2 0, 12, .inl (upd (F 8) (N 5) (nI jt)))), (u 9, .inl (G.2 0, 10, .inl (upd (F 9) 7 (nI (if (nI jt) = -1 then N 6 + 1 else N 6)))))] : va_W) ++ w) := hD
                  refine lv_aload hx hb dL_chats_657 (lv_at hl 7 rfl) ?_
                  refine lv_bipush (v := 6) hx hb dL_chats_659 (by decide) ?_
                  refine lv_dup2_11 hx hb dL_chats_661 rfl rfl ?_
                  refine va_iald hx hb hK (z_apL hP) 9 0 rfl rfl (vp_in_nI (n := 6) (by decide) (by decide)) dL_chats_662 ?_
                  refine W.eq (g2 := F0 m 663 ls [.int (nI (N 5)), .int 6, .ref (u 9)]) (by rw [show (upd (F 9) 7 (nI (if (nI jt) = -1 then N 6 + 1 else N 6))) (6 : Int32).toNatClampNeg = nI (N 5) from hg6]) ?_
                  refine lv_iconst (v := 1) hx hb dL_chats_663 (by decide) ?_
                  refine lv_iadd hx hb dL_chats_664 ?_
                  refine W.eq (g2 := F0 m 665 ls [.int (nI (N 5 + 1)), .int 6, .ref (u 9)]) (by first | (rw [nI_1]; done) | (rw [nI_1]; rfl)) ?_
                  refine va_iast hx hb hK hP hD hS 9 0 rfl rfl (vp_in_nI (n := 6) (by decide) (by decide)) dL_chats_665 (fun Hz Lz hP hD hS => ?_)
                  have hP : va_P G.1 vwCl (([(u 0, .inl (G.2 1, 64, .inr (.inl E))), (u 1, .inl (G.2 0, 8, .inl (F 1))), (u 2, .inl (G.2 0, 3, .inl (F 2))), (u 3, .inl (G.2 0, 3, .inl (F 3))), (u 4, .inl (G.2 0, 40, .inl (F 4))), (u 5, .inl (G.2 0, 40, .inl (F 5))), (u 6, .inl (G.2 0, 9, .inl (F 6))), (u 7, .inl (G.2 0, 12, .inl (upd (F 7) (N 5) (nI (N 4 + 16 * sP8 D (N 4)))))), (u 8, .inl (G.2 0, 12, .inl (upd (F 8) (N 5) (nI jt)))), (u 9, .inl (G.2 0, 10, .inl (upd (upd (F 9) 7 (nI (if (nI jt) = -1 then N 6 + 1 else N 6))) 6 (nI (N 5 + 1)))))] : va_W) ++ w) Hz := hP
                  have hD : va_D Aw (([(u 0, .inl (G.2 1, 64, .inr (.inl E))), (u 1, .inl (G.2 0, 8, .inl (F 1))), (u 2, .inl (G.2 0, 3, .inl (F 2))), (u 3, .inl (G.2 0, 3, .inl (F 3))), (u 4, .inl (G.2 0, 40, .inl (F 4))), (u 5, .inl (G.2 0, 40, .inl (F 5))), (u 6, .inl (G.2 0, 9, .inl (F 6))), (u 7, .inl (G.2 0, 12, .inl (upd (F 7) (N 5) (nI (N 4 + 16 * sP8 D (N 4)))))), (u 8, .inl (G.2 0, 12, .inl (upd (F 8) (N 5) (nI jt)))), (u 9, .inl (G.2 0, 10, .inl (upd (upd (F 9) 7 (nI (if (nI jt) = -1 then N 6 + 1 else N 6))) 6 (nI (N 5 + 1)))))] : va_W) ++ w) := hD
                  refine lv_aload hx hb dL_chats_666 (lv_at hl 7 rfl) ?_
                  refine lv_bipush (v := 8) hx hb dL_chats_668 (by decide) ?_
                  refine lv_iconst (v := 0) hx hb dL_chats_670 (by decide) ?_
                  refine va_iast hx hb hK hP hD hS 9 0 rfl rfl (vp_in_nI (n := 8) (by decide) (by decide)) dL_chats_671 (fun Hz Lz hP hD hS => ?_)
                  have hP : va_P G.1 vwCl (([(u 0, .inl (G.2 1, 64, .inr (.inl E))), (u 1, .inl (G.2 0, 8, .inl (F 1))), (u 2, .inl (G.2 0, 3, .inl (F 2))), (u 3, .inl (G.2 0, 3, .inl (F 3))), (u 4, .inl (G.2 0, 40, .inl (F 4))), (u 5, .inl (G.2 0, 40, .inl (F 5))), (u 6, .inl (G.2 0, 9, .inl (F 6))), (u 7, .inl (G.2 0, 12, .inl (upd (F 7) (N 5) (nI (N 4 + 16 * sP8 D (N 4)))))), (u 8, .inl (G.2 0, 12, .inl (upd (F 8) (N 5) (nI jt)))), (u 9, .inl (G.2 0, 10, .inl (upd (upd (upd (F 9) 7 (nI (if (nI jt) = -1 then N 6 + 1 else N 6))) 6 (nI (N 5 + 1))) 8 0)))] : va_W) ++ w) Hz := hP
                  have hD : va_D Aw (([(u 0, .inl (G.2 1, 64, .inr (.inl E))), (u 1, .inl (G.2 0, 8, .inl (F 1))), (u 2, .inl (G.2 0, 3, .inl (F 2))), (u 3, .inl (G.2 0, 3, .inl (F 3))), (u 4, .inl (G.2 0, 40, .inl (F 4))), (u 5, .inl (G.2 0, 40, .inl (F 5))), (u 6, .inl (G.2 0, 9, .inl (F 6))), (u 7, .inl (G.2 0, 12, .inl (upd (F 7) (N 5) (nI (N 4 + 16 * sP8 D (N 4)))))), (u 8, .inl (G.2 0, 12, .inl (upd (F 8) (N 5) (nI jt)))), (u 9, .inl (G.2 0, 10, .inl (upd (upd (upd (F 9) 7 (nI (if (nI jt) = -1 then N 6 + 1 else N 6))) 6 (nI (N 5 + 1))) 8 0)))] : va_W) ++ w) := hD
                  refine lv_aload hx hb dL_chats_672 (lv_at hl 7 rfl) ?_
                  refine lv_bipush (v := 9) hx hb dL_chats_674 (by decide) ?_
                  refine lv_iconst (v := 0) hx hb dL_chats_676 (by decide) ?_
                  refine va_iast hx hb hK hP hD hS 9 0 rfl rfl (vp_in_nI (n := 9) (by decide) (by decide)) dL_chats_677 (fun Hz Lz hP hD hS => ?_)
                  have hP : va_P G.1 vwCl (([(u 0, .inl (G.2 1, 64, .inr (.inl E))), (u 1, .inl (G.2 0, 8, .inl (F 1))), (u 2, .inl (G.2 0, 3, .inl (F 2))), (u 3, .inl (G.2 0, 3, .inl (F 3))), (u 4, .inl (G.2 0, 40, .inl (F 4))), (u 5, .inl (G.2 0, 40, .inl (F 5))), (u 6, .inl (G.2 0, 9, .inl (F 6))), (u 7, .inl (G.2 0, 12, .inl (upd (F 7) (N 5) (nI (N 4 + 16 * sP8 D (N 4)))))), (u 8, .inl (G.2 0, 12, .inl (upd (F 8) (N 5) (nI jt)))), (u 9, .inl (G.2 0, 10, .inl (upd (upd (upd (upd (F 9) 7 (nI (if (nI jt) = -1 then N 6 + 1 else N 6))) 6 (nI (N 5 + 1))) 8 0) 9 0)))] : va_W) ++ w) Hz := hP
                  have hD : va_D Aw (([(u 0, .inl (G.2 1, 64, .inr (.inl E))), (u 1, .inl (G.2 0, 8, .inl (F 1))), (u 2, .inl (G.2 0, 3, .inl (F 2))), (u 3, .inl (G.2 0, 3, .inl (F 3))), (u 4, .inl (G.2 0, 40, .inl (F 4))), (u 5, .inl (G.2 0, 40, .inl (F 5))), (u 6, .inl (G.2 0, 9, .inl (F 6))), (u 7, .inl (G.2 0, 12, .inl (upd (F 7) (N 5) (nI (N 4 + 16 * sP8 D (N 4)))))), (u 8, .inl (G.2 0, 12, .inl (upd (F 8) (N 5) (nI jt)))), (u 9, .inl (G.2 0, 10, .inl (upd (upd (upd (upd (F 9) 7 (nI (if (nI jt) = -1 then N 6 + 1 else N 6))) 6 (nI (N 5 + 1))) 8 0) 9 0)))] : va_W) ++ w) := hD
                  have hP : va_P G.1 vwCl (([(u 0, .inl (G.2 1, 64, .inr (.inl E))), (u 1, .inl (G.2 0, 8, .inl (F 1))), (u 2, .inl (G.2 0, 3, .inl (F 2))), (u 3, .inl (G.2 0, 3, .inl (F 3))), (u 4, .inl (G.2 0, 40, .inl (F 4))), (u 5, .inl (G.2 0, 40, .inl (F 5))), (u 6, .inl (G.2 0, 9, .inl (F 6))), (u 7, .inl (G.2 0, 12, .inl (upd (F 7) (N 5) (nI (N 4 + 16 * sP8 D (N 4)))))), (u 8, .inl (G.2 0, 12, .inl (upd (F 8) (N 5) (nI jt)))), (u 9, .inl (G.2 0, 10, .inl (upd (upd (upd (upd (F 9) 7 (nI (if (nI jt) = -1 then N 6 + 1 else N 6))) 6 (nI (N 5 + 1))) 8 0) 9 0)))] : va_W) ++ w) Hz := hP
                  have hD : va_D Aw (([(u 0, .inl (G.2 1, 64, .inr (.inl E))), (u 1, .inl (G.2 0, 8, .inl (F 1))), (u 2, .inl (G.2 0, 3, .inl (F 2))), (u 3, .inl (G.2 0, 3, .inl (F 3))), (u 4, .inl (G.2 0, 40, .inl (F 4))), (u 5, .inl (G.2 0, 40, .inl (F 5))), (u 6, .inl (G.2 0, 9, .inl (F 6))), (u 7, .inl (G.2 0, 12, .inl (upd (F 7) (N 5) (nI (N 4 + 16 * sP8 D (N 4)))))), (u 8, .inl (G.2 0, 12, .inl (upd (F 8) (N 5) (nI jt)))), (u 9, .inl (G.2 0, 10, .inl (upd (upd (upd (upd (F 9) 7 (nI (if (nI jt) = -1 then N 6 + 1 else N 6))) 6 (nI (N 5 + 1))) 8 0) 9 0)))] : va_W) ++ w) := hD
                  refine lv_iload hx hb dL_chats_678 (lv_at hl 11 rfl) ?_
                  refine lv_if_lt (tgt := 695) hx hb dL_chats_680 (by decide) (fun zc_11 => ?_) (fun zc_11 => ?_)
                  · skip
                    have zd_11 := Int32.not_le.mpr zc_11
                    have hmz : sMeant (T 17) (N 4) = -1 := sMeant_ge.mp zc_11
                    have hRn := sLR_post_n (a := (nI jt)) (f8 := (upd (F 8) (N 5) (nI jt))) hR hDt hb4 hmz
                    refine lv_aload_n hx hb dL_chats_695 rfl (lv_at hl 0 rfl) ?_
                    refine lv_iload hx hb dL_chats_696 (lv_at hl 8 rfl) ?_
                    refine lv_iload hx hb dL_chats_698 (lv_at hl 9 rfl) ?_
                    have hkz_700 : sK2 ((sIx (nI jp) 9) && (decide ((nI jt) = -1) || sIx (nI jt) (N 6))) (((decide (T 2 (nI jp).toNatClampNeg = 0)) && (sGood (T 17) (N 4))) && !decide (N 5 = 60)) = 0 := (sK2_ok (sAnd_y (sIx_y hjp (by omega)) (show (decide ((nI jt) = -1) || sIx (nI jt) (N 6)) = true from (by rw [sIx_y hjt (by omega), Bool.or_true]))) (sAnd_y (sAnd_y (decide_eq_true hlf) hgz) (by simp; omega)))
                    have hzb_700 : (8 + zmc (sK2 ((sIx (nI jp) 9) && (decide ((nI jt) = -1) || sIx (nI jt) (N 6))) (((decide (T 2 (nI jp).toNatClampNeg = 0)) && (sGood (T 17) (N 4))) && !decide (N 5 = 60))) (N 1) ((nPost N T (nI jt)).1 1)) ≤ 136 ∧ (200 + zms (sK2 ((sIx (nI jp) 9) && (decide ((nI jt) = -1) || sIx (nI jt) (N 6))) (((decide (T 2 (nI jp).toNatClampNeg = 0)) && (sGood (T 17) (N 4))) && !decide (N 5 = 60))) (N 1) ((nPost N T (nI jt)).1 1)) ≤ 744 := zmc_b8 (show (nPost N T (nI jt)).1 1 ≤ 128 by have := nPost_1 (N := N) (T := T) (a := (nI jt)); omega)
                    refine z_xR (G := G) (w := w) (c2 := 186) (s2 := 1504) (vx_runSX (hh := [(0, 7, 10, 14), (0, 7, 16, 18)]) (As := [.ref (r 0), .int (nI jp), .int (nI jt)]) (rest := []) ⟨hx, hb, hml, hown, hts⟩ (h_post l hst G d r A mc g N T w K (nI jp) (nI jt) Hz.size hC hJ.1.1 (by omega) ) (vx_cwSW 3 hts gL_chats_L_post rfl rfl rfl (by decide +kernel) ⟨Nat.le_of_ble_eq_true rfl, Nat.le_of_ble_eq_true rfl⟩) (z_hs hK (z_apR hP) (z_dR hD) hZ hLx hS hA) rfl rfl hl.1 rfl (lv_room (Nat.le_of_ble_eq_true rfl)) dL_chats_700 ⟨(show 50 + (8 + zmc (sK2 ((sIx (nI jp) 9) && (decide ((nI jt) = -1) || sIx (nI jt) (N 6))) (((decide (T 2 (nI jp).toNatClampNeg = 0)) && (sGood (T 17) (N 4))) && !decide (N 5 = 60))) (N 1) ((nPost N T (nI jt)).1 1)) ≤ 600 by omega), (show 760 + (200 + zms (sK2 ((sIx (nI jp) 9) && (decide ((nI jt) = -1) || sIx (nI jt) (N 6))) (((decide (T 2 (nI jp).toNatClampNeg = 0)) && (sGood (T 17) (N 4))) && !decide (N 5 = 60))) (N 1) ((nPost N T (nI jt)).1 1)) ≤ 3600 by omega)⟩) hP hD hS hA (show 50 + (8 + zmc (sK2 ((sIx (nI jp) 9) && (decide ((nI jt) = -1) || sIx (nI jt) (N 6))) (((decide (T 2 (nI jp).toNatClampNeg = 0)) && (sGood (T 17) (N 4))) && !decide (N 5 = 60))) (N 1) ((nPost N T (nI jt)).1 1)) ≤ 186 by omega) (show 760 + (200 + zms (sK2 ((sIx (nI jp) 9) && (decide ((nI jt) = -1) || sIx (nI jt) (N 6))) (((decide (T 2 (nI jp).toNatClampNeg = 0)) && (sGood (T 17) (N 4))) && !decide (N 5 = 60))) (N 1) ((nPost N T (nI jt)).1 1)) ≤ 1504 by omega) (fun rz_12 zw_12 Hz Lz hq hP hD hS => ?_)
                    obtain ⟨hr9, A, mc, g, hC⟩ := hq.1 hkz_700
                    rw [hr9]
                    refine W.eq (g2 := F0 m 703 ls [.int (nI jt)]) (by first | (rw [rPost_n (by omega)]; done) | (rw [rPost_n (by omega)]; rfl)) ?_
                    refine lv_iload hx hb dL_chats_703 (lv_at hl 10 rfl) ?_
                    refine lv_icmp_ne (tgt := 712) hx hb dL_chats_705 (by decide) (fun zc_13 => absurd rfl zc_13) (fun _ => ?_)
                    refine lv_iconst (v := 1) hx hb dL_chats_708 (by decide) ?_
                    refine lv_goto (tgt := 713) hx hb dL_chats_709 (by decide) ?_
                    exact z_widen (k := 600) (n := 3600) (show 186 ≤ 600 by omega) (show 1504 ≤ 3600 by omega) (W.zret (v := 1) hx hb hr rfl (fun t ht hW => ⟨⟨1, (([(u 0, .inl (G.2 1, 64, .inr (.inl E))), (u 1, .inl (G.2 0, 8, .inl (F 1))), (u 2, .inl (G.2 0, 3, .inl (F 2))), (u 3, .inl (G.2 0, 3, .inl (F 3))), (u 4, .inl (G.2 0, 40, .inl (F 4))), (u 5, .inl (G.2 0, 40, .inl (F 5))), (u 6, .inl (G.2 0, 9, .inl (F 6))), (u 7, .inl (G.2 0, 12, .inl (upd (F 7) (N 5) (nI (N 4 + 16 * sP8 D (N 4)))))), (u 8, .inl (G.2 0, 12, .inl (upd (F 8) (N 5) (nI jt)))), (u 9, .inl (G.2 0, 10, .inl (upd (upd (upd (upd (F 9) 7 (nI (if (nI jt) = -1 then N 6 + 1 else N 6))) 6 (nI (N 5 + 1))) 8 0) 9 0)))] : va_W) ++ zw_12), rfl, ⟨rfl, ((nPost N T (nI jt)).1), ((nPost N T (nI jt)).2), E, (va_up (va_up (va_up F 7 (upd (F 7) (N 5) (nI (N 4 + 16 * sP8 D (N 4))))) 8 (upd (F 8) (N 5) (nI jt))) 9 (upd (upd (upd (upd (F 9) 7 (nI (if (nI jt) = -1 then N 6 + 1 else N 6))) 6 (nI (N 5 + 1))) 8 0) 9 0)), zw_12, rfl, ⟨A, mc, g, hC⟩, hRn, ((sLJ_post hJ hh9.1 h12 hkz_700).mono (by omega))⟩, ⟨by rw [ht]; exact hP, hD⟩⟩, hS.F ht⟩) hS.2.2 dL_chats_713 hlocks)
                  · skip
                    have zd_11 := Int32.not_lt.mp zc_11
                    have hmz : ¬ sMeant (T 17) (N 4) = -1 := fun z => zc_11 (sMeant_ge.mpr z)
                    refine lv_aload hx hb dL_chats_683 (lv_at hl 4 rfl) ?_
                    refine lv_aload hx hb dL_chats_685 (lv_at hl 7 rfl) ?_
                    refine lv_iconst (v := 5) hx hb dL_chats_687 (by decide) ?_
                    refine lv_iload hx hb dL_chats_688 (lv_at hl 11 rfl) ?_
                    refine lv_iload hx hb dL_chats_690 (lv_at hl 10 rfl) ?_
                    refine z_lv (G := G) (w := (LW G u E (va_up (va_up (va_up F 7 (upd (F 7) (N 5) (nI (N 4 + 16 * sP8 D (N 4))))) 8 (upd (F 8) (N 5) (nI jt))) 9 (upd (upd (upd (upd (F 9) 7 (nI (if (nI jt) = -1 then N 6 + 1 else N 6))) 6 (nI (N 5 + 1))) 8 0) 9 0)))) (wr := w) (va_runS (As := [.ref (u 0), .ref (u 9), .int 5, .int (sMeantTo (T 17) (N 4 - 1)), .int (nI jt)]) (rest := []) ⟨hx, hb, hml, hown, hts⟩ (c_L_note l G u E (va_up (va_up (va_up F 7 (upd (F 7) (N 5) (nI (N 4 + 16 * sP8 D (N 4))))) 8 (upd (F 8) (N 5) (nI jt))) 9 (upd (upd (upd (upd (F 9) 7 (nI (if (nI jt) = -1 then N 6 + 1 else N 6))) 6 (nI (N 5 + 1))) 8 0) 9 0)) (T 0) (N 1) (N 0) 5 (sMeantTo (T 17) (N 4 - 1)) (nI jt) Hz.size (show sRE E ((T 0)) (N 1) from hR.1) (by omega) hg0 hg1 hi0 ⟨5, by decide, rfl⟩ (s_who (sMeant_vp hmz)) ⟨jt, by omega, rfl⟩) (va_cwS 5 hts gL_chats_L_note rfl rfl rfl (by decide +kernel) ⟨Nat.le_of_ble_eq_true rfl, Nat.le_of_ble_eq_true rfl⟩) (z_us hK (z_apL hP) (z_dL hD)) rfl rfl hl.1 rfl (lv_room (Nat.le_of_ble_eq_true rfl)) dL_chats_692 ⟨(show 50 + 0 ≤ 600 by omega), (show 760 + 0 ≤ 3600 by omega)⟩) hP hD hS hA (fun w1 Hz Lz hw hP hD hS => ?_)
                    obtain ⟨zE_14, rfl, hzE_14⟩ := hw
                    have hP : va_P G.1 vwCl (([(u 0, .inl (G.2 1, 64, .inr (.inl zE_14))), (u 1, .inl (G.2 0, 8, .inl (F 1))), (u 2, .inl (G.2 0, 3, .inl (F 2))), (u 3, .inl (G.2 0, 3, .inl (F 3))), (u 4, .inl (G.2 0, 40, .inl (F 4))), (u 5, .inl (G.2 0, 40, .inl (F 5))), (u 6, .inl (G.2 0, 9, .inl (F 6))), (u 7, .inl (G.2 0, 12, .inl (upd (F 7) (N 5) (nI (N 4 + 16 * sP8 D (N 4)))))), (u 8, .inl (G.2 0, 12, .inl (upd (F 8) (N 5) (nI jt)))), (u 9, .inl (G.2 0, 10, .inl (upd ((upd (upd (upd (upd (F 9) 7 (nI (if (nI jt) = -1 then N 6 + 1 else N 6))) 6 (nI (N 5 + 1))) 8 0) 9 0)) 1 (nI (N 1 + 1)))))] : va_W) ++ w) Hz := hP
                    have hD : va_D Aw (([(u 0, .inl (G.2 1, 64, .inr (.inl zE_14))), (u 1, .inl (G.2 0, 8, .inl (F 1))), (u 2, .inl (G.2 0, 3, .inl (F 2))), (u 3, .inl (G.2 0, 3, .inl (F 3))), (u 4, .inl (G.2 0, 40, .inl (F 4))), (u 5, .inl (G.2 0, 40, .inl (F 5))), (u 6, .inl (G.2 0, 9, .inl (F 6))), (u 7, .inl (G.2 0, 12, .inl (upd (F 7) (N 5) (nI (N 4 + 16 * sP8 D (N 4)))))), (u 8, .inl (G.2 0, 12, .inl (upd (F 8) (N 5) (nI jt)))), (u 9, .inl (G.2 0, 10, .inl (upd ((upd (upd (upd (upd (F 9) 7 (nI (if (nI jt) = -1 then N 6 + 1 else N 6))) 6 (nI (N 5 + 1))) 8 0) 9 0)) 1 (nI (N 1 + 1)))))] : va_W) ++ w) := hD
                    have hRn := sLR_post_y (a := (nI jt)) (f8 := (upd (F 8) (N 5) (nI jt))) hR hDt hb4 hmz (by rw [rPost_n (by omega)]; exact hzE_14)
                    refine lv_aload_n hx hb dL_chats_695 rfl (lv_at hl 0 rfl) ?_
                    refine lv_iload hx hb dL_chats_696 (lv_at hl 8 rfl) ?_
                    refine lv_iload hx hb dL_chats_698 (lv_at hl 9 rfl) ?_
                    have hkz_700 : sK2 ((sIx (nI jp) 9) && (decide ((nI jt) = -1) || sIx (nI jt) (N 6))) (((decide (T 2 (nI jp).toNatClampNeg = 0)) && (sGood (T 17) (N 4))) && !decide (N 5 = 60)) = 0 := (sK2_ok (sAnd_y (sIx_y hjp (by omega)) (show (decide ((nI jt) = -1) || sIx (nI jt) (N 6)) = true from (by rw [sIx_y hjt (by omega), Bool.or_true]))) (sAnd_y (sAnd_y (decide_eq_true hlf) hgz) (by simp; omega)))
                    have hzb_700 : (8 + zmc (sK2 ((sIx (nI jp) 9) && (decide ((nI jt) = -1) || sIx (nI jt) (N 6))) (((decide (T 2 (nI jp).toNatClampNeg = 0)) && (sGood (T 17) (N 4))) && !decide (N 5 = 60))) (N 1) ((nPost N T (nI jt)).1 1)) ≤ 136 ∧ (200 + zms (sK2 ((sIx (nI jp) 9) && (decide ((nI jt) = -1) || sIx (nI jt) (N 6))) (((decide (T 2 (nI jp).toNatClampNeg = 0)) && (sGood (T 17) (N 4))) && !decide (N 5 = 60))) (N 1) ((nPost N T (nI jt)).1 1)) ≤ 744 := zmc_b8 (show (nPost N T (nI jt)).1 1 ≤ 128 by have := nPost_1 (N := N) (T := T) (a := (nI jt)); omega)
                    refine z_xR (G := G) (w := w) (c2 := 186) (s2 := 1504) (vx_runSX (hh := [(0, 7, 10, 14), (0, 7, 16, 18)]) (As := [.ref (r 0), .int (nI jp), .int (nI jt)]) (rest := []) ⟨hx, hb, hml, hown, hts⟩ (h_post l hst G d r A mc g N T w K (nI jp) (nI jt) Hz.size hC hJ.1.1 (by omega) ) (vx_cwSW 3 hts gL_chats_L_post rfl rfl rfl (by decide +kernel) ⟨Nat.le_of_ble_eq_true rfl, Nat.le_of_ble_eq_true rfl⟩) (z_hs hK (z_apR hP) (z_dR hD) hZ hLx hS hA) rfl rfl hl.1 rfl (lv_room (Nat.le_of_ble_eq_true rfl)) dL_chats_700 ⟨(show 50 + (8 + zmc (sK2 ((sIx (nI jp) 9) && (decide ((nI jt) = -1) || sIx (nI jt) (N 6))) (((decide (T 2 (nI jp).toNatClampNeg = 0)) && (sGood (T 17) (N 4))) && !decide (N 5 = 60))) (N 1) ((nPost N T (nI jt)).1 1)) ≤ 600 by omega), (show 760 + (200 + zms (sK2 ((sIx (nI jp) 9) && (decide ((nI jt) = -1) || sIx (nI jt) (N 6))) (((decide (T 2 (nI jp).toNatClampNeg = 0)) && (sGood (T 17) (N 4))) && !decide (N 5 = 60))) (N 1) ((nPost N T (nI jt)).1 1)) ≤ 3600 by omega)⟩) hP hD hS hA (show 50 + (8 + zmc (sK2 ((sIx (nI jp) 9) && (decide ((nI jt) = -1) || sIx (nI jt) (N 6))) (((decide (T 2 (nI jp).toNatClampNeg = 0)) && (sGood (T 17) (N 4))) && !decide (N 5 = 60))) (N 1) ((nPost N T (nI jt)).1 1)) ≤ 186 by omega) (show 760 + (200 + zms (sK2 ((sIx (nI jp) 9) && (decide ((nI jt) = -1) || sIx (nI jt) (N 6))) (((decide (T 2 (nI jp).toNatClampNeg = 0)) && (sGood (T 17) (N 4))) && !decide (N 5 = 60))) (N 1) ((nPost N T (nI jt)).1 1)) ≤ 1504 by omega) (fun rz_15 zw_15 Hz Lz hq hP hD hS => ?_)
                    obtain ⟨hr9, A, mc, g, hC⟩ := hq.1 hkz_700
                    rw [hr9]
                    refine W.eq (g2 := F0 m 703 ls [.int (nI jt)]) (by first | (rw [rPost_n (by omega)]; done) | (rw [rPost_n (by omega)]; rfl)) ?_
                    refine lv_iload hx hb dL_chats_703 (lv_at hl 10 rfl) ?_
                    refine lv_icmp_ne (tgt := 712) hx hb dL_chats_705 (by decide) (fun zc_16 => absurd rfl zc_16) (fun _ => ?_)
                    refine lv_iconst (v := 1) hx hb dL_chats_708 (by decide) ?_
                    refine lv_goto (tgt := 713) hx hb dL_chats_709 (by decide) ?_
                    exact z_widen (k := 600) (n := 3600) (show 186 ≤ 600 by omega) (show 1504 ≤ 3600 by omega) (W.zret (v := 1) hx hb hr rfl (fun t ht hW => ⟨⟨1, (([(u 0, .inl (G.2 1, 64, .inr (.inl zE_14))), (u 1, .inl (G.2 0, 8, .inl (F 1))), (u 2, .inl (G.2 0, 3, .inl (F 2))), (u 3, .inl (G.2 0, 3, .inl (F 3))), (u 4, .inl (G.2 0, 40, .inl (F 4))), (u 5, .inl (G.2 0, 40, .inl (F 5))), (u 6, .inl (G.2 0, 9, .inl (F 6))), (u 7, .inl (G.2 0, 12, .inl (upd (F 7) (N 5) (nI (N 4 + 16 * sP8 D (N 4)))))), (u 8, .inl (G.2 0, 12, .inl (upd (F 8) (N 5) (nI jt)))), (u 9, .inl (G.2 0, 10, .inl (upd ((upd (upd (upd (upd (F 9) 7 (nI (if (nI jt) = -1 then N 6 + 1 else N 6))) 6 (nI (N 5 + 1))) 8 0) 9 0)) 1 (nI (N 1 + 1)))))] : va_W) ++ zw_15), rfl, ⟨rfl, ((nPost N T (nI jt)).1), ((nPost N T (nI jt)).2), zE_14, (va_up (va_up (va_up F 7 (upd (F 7) (N 5) (nI (N 4 + 16 * sP8 D (N 4))))) 8 (upd (F 8) (N 5) (nI jt))) 9 (upd (upd (upd (upd (upd (F 9) 7 (nI (if (nI jt) = -1 then N 6 + 1 else N 6))) 6 (nI (N 5 + 1))) 8 0) 9 0) 1 (nI (N 1 + 1)))), zw_15, rfl, ⟨A, mc, g, hC⟩, hRn, ((sLJ_post hJ hh9.1 h12 hkz_700).mono (by omega))⟩, ⟨by rw [ht]; exact hP, hD⟩⟩, hS.F ht⟩) hS.2.2 dL_chats_713 hlocks)
                · skip
                  have zd_10 := Int32.not_le.mp zc_10
                  have hi1 : i + 1 < N 4 := Nat.lt_of_not_le (fun z => zc_10 ((nI_leI (by omega) (by omega)).mpr z))
                  have hd8a := hDt.1 i
                  have hd8b := hDt.1 (i + 1)
                  refine lv_aload hx hb dL_chats_543 (lv_at hl 7 rfl) ?_
                  refine lv_bipush (v := 9) hx hb dL_chats_545 (by decide) ?_
                  refine va_iald hx hb hK (z_apL hP) 9 0 rfl rfl (vp_in_nI (n := 9) (by decide) (by decide)) dL_chats_547 ?_
                  refine W.eq (g2 := F0 m 548 ls [.int (F 9 9)]) (by rw [show (upd (F 9) 7 (nI (if (nI jt) = -1 then N 6 + 1 else N 6))) (9 : Int32).toNatClampNeg = F 9 9 from rfl]) ?_
                  refine lv_iconst (v := 3) hx hb dL_chats_548 (by decide) ?_
                  refine lv_iload hx hb dL_chats_549 (lv_at hl 12 rfl) ?_
                  refine lv_imul hx hb dL_chats_551 ?_
                  refine lv_iconst (v := 3) hx hb dL_chats_552 (by decide) ?_
                  refine lv_iadd hx hb dL_chats_553 ?_
                  refine lv_ishr hx hb dL_chats_554 ?_
                  refine lv_bipush (v := 7) hx hb dL_chats_555 (by decide) ?_
                  refine lv_iand hx hb dL_chats_557 ?_
                  refine W.eq (g2 := F0 m 558 ls [.int (nI (D (i + 1)))]) (by first | (rw [sP8_at1 hx9 hDt.1 hi1 hb4]; done) | (rw [sP8_at1 hx9 hDt.1 hi1 hb4]; rfl)) ?_
                  refine lv_istore (lv' := [(14, .int (nI (D (i + 1)))), (0, .ref (r 0)), (1, .int act), (2, .int x), (3, .int y), (4, .ref (u 0)), (5, .ref (u 7)), (6, .ref (u 8)), (7, .ref (u 9)), (8, .int (nI jp)), (10, .int (nI jt)), (11, .int (nI jt)), (12, .int (sMeantTo (T 17) i)), (13, .int (nI i))]) hx hb dL_chats_558 hl (by decide) rfl (fun ls hl => ?_)
                  refine lv_aload hx hb dL_chats_560 (lv_at hl 8 rfl) ?_
                  refine lv_bipush (v := 9) hx hb dL_chats_562 (by decide) ?_
                  refine va_iald hx hb hK (z_apL hP) 9 0 rfl rfl (vp_in_nI (n := 9) (by decide) (by decide)) dL_chats_564 ?_
                  refine W.eq (g2 := F0 m 565 ls [.int (F 9 9)]) (by rw [show (upd (F 9) 7 (nI (if (nI jt) = -1 then N 6 + 1 else N 6))) (9 : Int32).toNatClampNeg = F 9 9 from rfl]) ?_
                  refine lv_iconst (v := 3) hx hb dL_chats_565 (by decide) ?_
                  refine lv_iload hx hb dL_chats_566 (lv_at hl 13 rfl) ?_
                  refine lv_imul hx hb dL_chats_568 ?_
                  refine lv_ishr hx hb dL_chats_569 ?_
                  refine lv_bipush (v := 7) hx hb dL_chats_570 (by decide) ?_
                  refine lv_iand hx hb dL_chats_572 ?_
                  refine W.eq (g2 := F0 m 573 ls [.int (nI (D i))]) (by first | (rw [sP8_at hx9 hDt.1 (by omega) hb4]; done) | (rw [sP8_at hx9 hDt.1 (by omega) hb4]; rfl)) ?_
                  refine lv_if_ne (tgt := 619) hx hb dL_chats_573 (by decide) (fun zc_17 => ?_) (fun zc_17 => ?_)
                  · skip
                    have hd0 : ¬ D i = 0 := fun z => zc_17 (by rw [z]; rfl)
                    refine lv_iinc (v := (nI (i + 1))) (lv' := [(13, .int (nI (i + 1))), (14, .int (nI (D (i + 1)))), (0, .ref (r 0)), (1, .int act), (2, .int x), (3, .int y), (4, .ref (u 0)), (5, .ref (u 7)), (6, .ref (u 8)), (7, .ref (u 9)), (8, .int (nI jp)), (10, .int (nI jt)), (11, .int (nI jt)), (12, .int (sMeantTo (T 17) i))]) hx hb dL_chats_619 hl (k := 13) rfl (by first | exact nI_1 _ | rfl) (by decide) rfl (fun ls hl => ?_)
                    refine lv_goto (tgt := 531) hx hb dL_chats_622 (by decide) ?_
                    have hl2 := lv_sub (l' := [(0, .ref (r 0)), (1, .int act), (2, .int x), (3, .int y), (4, .ref (u 0)), (5, .ref (u 7)), (6, .ref (u 8)), (7, .ref (u 9)), (8, .int (nI jp)), (10, .int (nI jt)), (11, .int (nI jt)), (12, .int (sMeantTo (T 17) i)), (13, .int (nI (i + 1)))]) hl [2, 3, 4, 5, 6, 7, 8, 9, 10, 11, 12, 13, 0] rfl
                    have e_12 : sMeantTo (T 17) i = sMeantTo (T 17) (i + 1) := by rw [sMw hDt hi1, if_neg (fun z => hd0 z.1)]
                    have hl2 : lv_has ls 17 [(0, .ref (r 0)), (1, .int act), (2, .int x), (3, .int y), (4, .ref (u 0)), (5, .ref (u 7)), (6, .ref (u 8)), (7, .ref (u 9)), (8, .int (nI jp)), (10, .int (nI jt)), (11, .int (nI jt)), (12, .int (sMeantTo (T 17) (i + 1))), (13, .int (nI (i + 1)))] := by rw [← e_12]; exact hl2
                    exact z_widen (show 50 ≤ 50 by omega) (show 760 ≤ 760 by omega) (ih (i + 1) (by omega) (by omega)   _ _ hP hD hS ls hl2)
                  · skip
                    have hd0 : D i = 0 := (nI_eq (b := 0) (by omega) (by omega)).mp zc_17
                    refine lv_iload hx hb dL_chats_576 (lv_at hl 0 rfl) ?_
                    refine lv_iconst (v := 1) hx hb dL_chats_578 (by decide) ?_
                    refine lv_icmp_eq (tgt := 595) hx hb dL_chats_579 (by decide) (fun zc_18 => ?_) (fun zc_18 => ?_)
                    · skip
                      have hda : D (i + 1) = 1 := (nI_eq (b := 1) (by omega) (by omega)).mp zc_18
                      refine lv_iload hx hb dL_chats_595 (lv_at hl 0 rfl) ?_
                      refine lv_iconst (v := 1) hx hb dL_chats_597 (by decide) ?_
                      refine lv_icmp_ne (tgt := 605) hx hb dL_chats_598 (by decide) (fun zc_19 => ?_) (fun zc_19 => ?_)
                      · skip
                        exact absurd (by rw [hda]; rfl) zc_19
                      · skip
                        refine lv_iconst (v := 0) hx hb dL_chats_601 (by decide) ?_
                        refine lv_goto (tgt := 617) hx hb dL_chats_602 (by decide) ?_
                        refine lv_istore (lv' := [(12, .int 0), (14, .int (nI (D (i + 1)))), (0, .ref (r 0)), (1, .int act), (2, .int x), (3, .int y), (4, .ref (u 0)), (5, .ref (u 7)), (6, .ref (u 8)), (7, .ref (u 9)), (8, .int (nI jp)), (10, .int (nI jt)), (11, .int (nI jt)), (13, .int (nI i))]) hx hb dL_chats_617 hl (by decide) rfl (fun ls hl => ?_)
                        refine lv_iinc (v := (nI (i + 1))) (lv' := [(13, .int (nI (i + 1))), (12, .int 0), (14, .int (nI (D (i + 1)))), (0, .ref (r 0)), (1, .int act), (2, .int x), (3, .int y), (4, .ref (u 0)), (5, .ref (u 7)), (6, .ref (u 8)), (7, .ref (u 9)), (8, .int (nI jp)), (10, .int (nI jt)), (11, .int (nI jt))]) hx hb dL_chats_619 hl (k := 13) rfl (by first | exact nI_1 _ | rfl) (by decide) rfl (fun ls hl => ?_)
                        refine lv_goto (tgt := 531) hx hb dL_chats_622 (by decide) ?_
                        have hl2 := lv_sub (l' := [(0, .ref (r 0)), (1, .int act), (2, .int x), (3, .int y), (4, .ref (u 0)), (5, .ref (u 7)), (6, .ref (u 8)), (7, .ref (u 9)), (8, .int (nI jp)), (10, .int (nI jt)), (11, .int (nI jt)), (12, .int 0), (13, .int (nI (i + 1)))]) hl [3, 4, 5, 6, 7, 8, 9, 10, 11, 12, 13, 1, 0] rfl
                        have e_12 : 0 = sMeantTo (T 17) (i + 1) := by rw [sMw hDt hi1]; simp [hd0, hda]
                        have hl2 : lv_has ls 17 [(0, .ref (r 0)), (1, .int act), (2, .int x), (3, .int y), (4, .ref (u 0)), (5, .ref (u 7)), (6, .ref (u 8)), (7, .ref (u 9)), (8, .int (nI jp)), (10, .int (nI jt)), (11, .int (nI jt)), (12, .int (sMeantTo (T 17) (i + 1))), (13, .int (nI (i + 1)))] := by rw [← e_12]; exact hl2
                        exact z_widen (show 50 ≤ 50 by omega) (show 760 ≤ 760 by omega) (ih (i + 1) (by omega) (by omega)   _ _ hP hD hS ls hl2)
                    · skip
                      have hda : ¬ D (i + 1) = 1 := fun z => zc_18 (by rw [z]; rfl)
                      refine lv_iload hx hb dL_chats_582 (lv_at hl 0 rfl) ?_
                      refine lv_iconst (v := 2) hx hb dL_chats_584 (by decide) ?_
                      refine lv_icmp_eq (tgt := 595) hx hb dL_chats_585 (by decide) (fun zc_20 => ?_) (fun zc_20 => ?_)
                      · skip
                        have hdb : D (i + 1) = 2 := (nI_eq (b := 2) (by omega) (by omega)).mp zc_20
                        refine lv_iload hx hb dL_chats_595 (lv_at hl 0 rfl) ?_
                        refine lv_iconst (v := 1) hx hb dL_chats_597 (by decide) ?_
                        refine lv_icmp_ne (tgt := 605) hx hb dL_chats_598 (by decide) (fun zc_21 => ?_) (fun zc_21 => ?_)
                        · skip
                          refine lv_iload hx hb dL_chats_605 (lv_at hl 0 rfl) ?_
                          refine lv_iconst (v := 2) hx hb dL_chats_607 (by decide) ?_
                          refine lv_icmp_ne (tgt := 616) hx hb dL_chats_608 (by decide) (fun zc_22 => ?_) (fun zc_22 => ?_)
                          · skip
                            exact absurd (by rw [hdb]; rfl) zc_22
                          · skip
                            refine lv_bipush (v := 8) hx hb dL_chats_611 (by decide) ?_
                            refine lv_goto (tgt := 617) hx hb dL_chats_613 (by decide) ?_
                            refine lv_istore (lv' := [(12, .int 8), (14, .int (nI (D (i + 1)))), (0, .ref (r 0)), (1, .int act), (2, .int x), (3, .int y), (4, .ref (u 0)), (5, .ref (u 7)), (6, .ref (u 8)), (7, .ref (u 9)), (8, .int (nI jp)), (10, .int (nI jt)), (11, .int (nI jt)), (13, .int (nI i))]) hx hb dL_chats_617 hl (by decide) rfl (fun ls hl => ?_)
                            refine lv_iinc (v := (nI (i + 1))) (lv' := [(13, .int (nI (i + 1))), (12, .int 8), (14, .int (nI (D (i + 1)))), (0, .ref (r 0)), (1, .int act), (2, .int x), (3, .int y), (4, .ref (u 0)), (5, .ref (u 7)), (6, .ref (u 8)), (7, .ref (u 9)), (8, .int (nI jp)), (10, .int (nI jt)), (11, .int (nI jt))]) hx hb dL_chats_619 hl (k := 13) rfl (by first | exact nI_1 _ | rfl) (by decide) rfl (fun ls hl => ?_)
                            refine lv_goto (tgt := 531) hx hb dL_chats_622 (by decide) ?_
                            have hl2 := lv_sub (l' := [(0, .ref (r 0)), (1, .int act), (2, .int x), (3, .int y), (4, .ref (u 0)), (5, .ref (u 7)), (6, .ref (u 8)), (7, .ref (u 9)), (8, .int (nI jp)), (10, .int (nI jt)), (11, .int (nI jt)), (12, .int 8), (13, .int (nI (i + 1)))]) hl [3, 4, 5, 6, 7, 8, 9, 10, 11, 12, 13, 1, 0] rfl
                            have e_12 : 8 = sMeantTo (T 17) (i + 1) := by rw [sMw hDt hi1]; simp [hd0, hdb]
                            have hl2 : lv_has ls 17 [(0, .ref (r 0)), (1, .int act), (2, .int x), (3, .int y), (4, .ref (u 0)), (5, .ref (u 7)), (6, .ref (u 8)), (7, .ref (u 9)), (8, .int (nI jp)), (10, .int (nI jt)), (11, .int (nI jt)), (12, .int (sMeantTo (T 17) (i + 1))), (13, .int (nI (i + 1)))] := by rw [← e_12]; exact hl2
                            exact z_widen (show 50 ≤ 50 by omega) (show 760 ≤ 760 by omega) (ih (i + 1) (by omega) (by omega)   _ _ hP hD hS ls hl2)
                        · skip
                          exact absurd ((nI_eq (b := 1) (by omega) (by omega)).mp zc_21) (by omega)
                      · skip
                        have hdb : ¬ D (i + 1) = 2 := fun z => zc_20 (by rw [z]; rfl)
                        refine lv_iload hx hb dL_chats_588 (lv_at hl 0 rfl) ?_
                        refine lv_bipush (v := 7) hx hb dL_chats_590 (by decide) ?_
                        refine lv_icmp_ne (tgt := 619) hx hb dL_chats_592 (by decide) (fun zc_23 => ?_) (fun zc_23 => ?_)
                        · skip
                          have hdc : ¬ D (i + 1) = 7 := fun z => zc_23 (by rw [z]; rfl)
                          refine lv_iinc (v := (nI (i + 1))) (lv' := [(13, .int (nI (i + 1))), (14, .int (nI (D (i + 1)))), (0, .ref (r 0)), (1, .int act), (2, .int x), (3, .int y), (4, .ref (u 0)), (5, .ref (u 7)), (6, .ref (u 8)), (7, .ref (u 9)), (8, .int (nI jp)), (10, .int (nI jt)), (11, .int (nI jt)), (12, .int (sMeantTo (T 17) i))]) hx hb dL_chats_619 hl (k := 13) rfl (by first | exact nI_1 _ | rfl) (by decide) rfl (fun ls hl => ?_)
                          refine lv_goto (tgt := 531) hx hb dL_chats_622 (by decide) ?_
                          have hl2 := lv_sub (l' := [(0, .ref (r 0)), (1, .int act), (2, .int x), (3, .int y), (4, .ref (u 0)), (5, .ref (u 7)), (6, .ref (u 8)), (7, .ref (u 9)), (8, .int (nI jp)), (10, .int (nI jt)), (11, .int (nI jt)), (12, .int (sMeantTo (T 17) i)), (13, .int (nI (i + 1)))]) hl [2, 3, 4, 5, 6, 7, 8, 9, 10, 11, 12, 13, 0] rfl
                          have e_12 : sMeantTo (T 17) i = sMeantTo (T 17) (i + 1) := by rw [sMw hDt hi1, if_neg (fun z => z.2.elim hda (fun z => z.elim hdb hdc))]
                          have hl2 : lv_has ls 17 [(0, .ref (r 0)), (1, .int act), (2, .int x), (3, .int y), (4, .ref (u 0)), (5, .ref (u 7)), (6, .ref (u 8)), (7, .ref (u 9)), (8, .int (nI jp)), (10, .int (nI jt)), (11, .int (nI jt)), (12, .int (sMeantTo (T 17) (i + 1))), (13, .int (nI (i + 1)))] := by rw [← e_12]; exact hl2
                          exact z_widen (show 50 ≤ 50 by omega) (show 760 ≤ 760 by omega) (ih (i + 1) (by omega) (by omega)   _ _ hP hD hS ls hl2)
                        · skip
                          have hdc : D (i + 1) = 7 := (nI_eq (b := 7) (by omega) (by omega)).mp zc_23
                          refine lv_iload hx hb dL_chats_595 (lv_at hl 0 rfl) ?_
                          refine lv_iconst (v := 1) hx hb dL_chats_597 (by decide) ?_
                          refine lv_icmp_ne (tgt := 605) hx hb dL_chats_598 (by decide) (fun zc_24 => ?_) (fun zc_24 => ?_)
                          · skip
                            refine lv_iload hx hb dL_chats_605 (lv_at hl 0 rfl) ?_
                            refine lv_iconst (v := 2) hx hb dL_chats_607 (by decide) ?_
                            refine lv_icmp_ne (tgt := 616) hx hb dL_chats_608 (by decide) (fun zc_25 => ?_) (fun zc_25 => ?_)
                            · skip
                              refine lv_iconst (v := 1) hx hb dL_chats_616 (by decide) ?_
                              refine lv_istore (lv' := [(12, .int 1), (14, .int (nI (D (i + 1)))), (0, .ref (r 0)), (1, .int act), (2, .int x), (3, .int y), (4, .ref (u 0)), (5, .ref (u 7)), (6, .ref (u 8)), (7, .ref (u 9)), (8, .int (nI jp)), (10, .int (nI jt)), (11, .int (nI jt)), (13, .int (nI i))]) hx hb dL_chats_617 hl (by decide) rfl (fun ls hl => ?_)
                              refine lv_iinc (v := (nI (i + 1))) (lv' := [(13, .int (nI (i + 1))), (12, .int 1), (14, .int (nI (D (i + 1)))), (0, .ref (r 0)), (1, .int act), (2, .int x), (3, .int y), (4, .ref (u 0)), (5, .ref (u 7)), (6, .ref (u 8)), (7, .ref (u 9)), (8, .int (nI jp)), (10, .int (nI jt)), (11, .int (nI jt))]) hx hb dL_chats_619 hl (k := 13) rfl (by first | exact nI_1 _ | rfl) (by decide) rfl (fun ls hl => ?_)
                              refine lv_goto (tgt := 531) hx hb dL_chats_622 (by decide) ?_
                              have hl2 := lv_sub (l' := [(0, .ref (r 0)), (1, .int act), (2, .int x), (3, .int y), (4, .ref (u 0)), (5, .ref (u 7)), (6, .ref (u 8)), (7, .ref (u 9)), (8, .int (nI jp)), (10, .int (nI jt)), (11, .int (nI jt)), (12, .int 1), (13, .int (nI (i + 1)))]) hl [3, 4, 5, 6, 7, 8, 9, 10, 11, 12, 13, 1, 0] rfl
                              have e_12 : 1 = sMeantTo (T 17) (i + 1) := by rw [sMw hDt hi1]; simp [hd0, hdc]
                              have hl2 : lv_has ls 17 [(0, .ref (r 0)), (1, .int act), (2, .int x), (3, .int y), (4, .ref (u 0)), (5, .ref (u 7)), (6, .ref (u 8)), (7, .ref (u 9)), (8, .int (nI jp)), (10, .int (nI jt)), (11, .int (nI jt)), (12, .int (sMeantTo (T 17) (i + 1))), (13, .int (nI (i + 1)))] := by rw [← e_12]; exact hl2
                              exact z_widen (show 50 ≤ 50 by omega) (show 760 ≤ 760 by omega) (ih (i + 1) (by omega) (by omega)   _ _ hP hD hS ls hl2)
                            · skip
                              exact absurd ((nI_eq (b := 2) (by omega) (by omega)).mp zc_25) (by omega)
                          · skip
                            exact absurd ((nI_eq (b := 1) (by omega) (by omega)).mp zc_24) (by omega)
            exact z_widen (show 30 ≤ 50 by omega) (show 700 ≤ 760 by omega) (key_531 ((N 4 - 1) + 1) 0 (Nat.zero_le _) (by omega)   _ _ hP hD hS ls (lv_sub hl [3, 4, 5, 6, 7, 8, 9, 10, 11, 12, 2, 1, 0] rfl))
          · skip
            have zd_9 := Int32.not_le.mp zc_9
            exact absurd (nI_pos' (by omega)) zc_9
        · skip
          have zd_8 := Int32.not_le.mp zc_8
          exact absurd (nI_pos' (by omega)) zc_8
      · skip
        have h12 : N 5 = 12 := (nI_eq (b := 12) (by omega) (by omega)).mp zc_7
        refine lv_aload_n hx hb dL_chats_472 rfl (lv_at hl 0 rfl) ?_
        refine lv_bipush (v := 12) hx hb dL_chats_473 (by decide) ?_
        have hkz_475 : sK1 (sIx (12 : Int32) (N 5)) = 1 := (sK1_1' (by rw [h12]; decide))
        refine z_xR (G := G) (w := w) (c2 := 32) (s2 := 712) (vx_runSX (hh := [(0, 6, 9, 14)]) (As := [.ref (r 0), .int 12]) (rest := []) ⟨hx, hb, hml, hown, hts⟩ (h_signs l hst G d r A mc g N T w K (12 : Int32) H.size hC hJ.1.1 (by omega) ) (vx_cwSW 2 hts gL_chats_L_signs rfl rfl rfl (by decide +kernel) ⟨Nat.le_of_ble_eq_true rfl, Nat.le_of_ble_eq_true rfl⟩) (z_hs hK (z_apR hP) (z_dR hD) hZ hLx hS hA) rfl rfl hl.1 rfl (lv_room (Nat.le_of_ble_eq_true rfl)) dL_chats_475 ⟨(show 30 + 2 ≤ 600 by omega), (show 700 + 12 ≤ 3600 by omega)⟩) hP hD hS hA (show 30 + 2 ≤ 32 by omega) (show 700 + 12 ≤ 712 by omega) (fun rz_26 zw_26 Hz Lz hq hP hD hS => ?_)
        obtain ⟨hr9, hw9⟩ := hq.2 (by rw [hkz_475]; decide)
        rw [hw9] at hP hD
        rw [hr9, show zCx [-7100] (sK1 (sIx (12 : Int32) (N 5))) = (-7100) from by rw [hkz_475]; rfl]
        refine lv_sipush (v := (-7100)) hx hb dL_chats_478 (by decide) ?_
        refine lv_icmp_ne (tgt := 488) hx hb dL_chats_481 (by decide) (fun zc_27 => absurd zc_27 (by decide)) (fun _ => ?_)
        refine lv_iconst (v := 1) hx hb dL_chats_484 (by decide) ?_
        refine lv_goto (tgt := 489) hx hb dL_chats_485 (by decide) ?_
        exact z_widen (k := 600) (n := 3600) (show 32 ≤ 600 by omega) (show 712 ≤ 3600 by omega) (W.zret (v := 1) hx hb hr rfl (fun t ht hW => ⟨⟨1, (([(u 0, .inl (G.2 1, 64, .inr (.inl E))), (u 1, .inl (G.2 0, 8, .inl (F 1))), (u 2, .inl (G.2 0, 3, .inl (F 2))), (u 3, .inl (G.2 0, 3, .inl (F 3))), (u 4, .inl (G.2 0, 40, .inl (F 4))), (u 5, .inl (G.2 0, 40, .inl (F 5))), (u 6, .inl (G.2 0, 9, .inl (F 6))), (u 7, .inl (G.2 0, 12, .inl (F 7))), (u 8, .inl (G.2 0, 12, .inl (F 8))), (u 9, .inl (G.2 0, 10, .inl (F 9)))] : va_W) ++ w), rfl, ⟨rfl, N, T, E, F, w, rfl, ⟨A, mc, g, hC⟩, hR, (hJ.mono (by omega))⟩, ⟨by rw [ht]; exact hP, hD⟩⟩, hS.F ht⟩) hS.2.2 dL_chats_489 hlocks)
    · skip
      have zc_6 := zb_0.mp zc_6
      have hgz := zc_6
      refine lv_aload_n hx hb dL_chats_442 rfl (lv_at hl 0 rfl) ?_
      refine lv_iload hx hb dL_chats_443 (lv_at hl 8 rfl) ?_
      refine lv_iload hx hb dL_chats_445 (lv_at hl 9 rfl) ?_
      have hkz_447 : sK2 ((sIx (nI jp) 9) && (decide ((nI jt) = -1) || sIx (nI jt) (N 6))) (((decide (T 2 (nI jp).toNatClampNeg = 0)) && (sGood (T 17) (N 4))) && !decide (N 5 = 60)) = 2 := (sK2_2' (sAnd_y (sIx_y hjp (by omega)) (show (decide ((nI jt) = -1) || sIx (nI jt) (N 6)) = true from (by rw [sIx_y hjt (by omega), Bool.or_true]))) (sAnd_l (sAnd_r hgz)))
      have hzb_447 : (8 + zmc (sK2 ((sIx (nI jp) 9) && (decide ((nI jt) = -1) || sIx (nI jt) (N 6))) (((decide (T 2 (nI jp).toNatClampNeg = 0)) && (sGood (T 17) (N 4))) && !decide (N 5 = 60))) (N 1) ((nPost N T (nI jt)).1 1)) ≤ 8 ∧ (200 + zms (sK2 ((sIx (nI jp) 9) && (decide ((nI jt) = -1) || sIx (nI jt) (N 6))) (((decide (T 2 (nI jp).toNatClampNeg = 0)) && (sGood (T 17) (N 4))) && !decide (N 5 = 60))) (N 1) ((nPost N T (nI jt)).1 1)) ≤ 200 := zmc_n8 (by rw [hkz_447]; decide)
      refine z_xR (G := G) (w := w) (c2 := 38) (s2 := 900) (vx_runSX (hh := [(0, 7, 10, 14), (0, 7, 16, 18)]) (As := [.ref (r 0), .int (nI jp), .int (nI jt)]) (rest := []) ⟨hx, hb, hml, hown, hts⟩ (h_post l hst G d r A mc g N T w K (nI jp) (nI jt) H.size hC hJ.1.1 (by omega) ) (vx_cwSW 3 hts gL_chats_L_post rfl rfl rfl (by decide +kernel) ⟨Nat.le_of_ble_eq_true rfl, Nat.le_of_ble_eq_true rfl⟩) (z_hs hK (z_apR hP) (z_dR hD) hZ hLx hS hA) rfl rfl hl.1 rfl (lv_room (Nat.le_of_ble_eq_true rfl)) dL_chats_447 ⟨(show 30 + (8 + zmc (sK2 ((sIx (nI jp) 9) && (decide ((nI jt) = -1) || sIx (nI jt) (N 6))) (((decide (T 2 (nI jp).toNatClampNeg = 0)) && (sGood (T 17) (N 4))) && !decide (N 5 = 60))) (N 1) ((nPost N T (nI jt)).1 1)) ≤ 600 by omega), (show 700 + (200 + zms (sK2 ((sIx (nI jp) 9) && (decide ((nI jt) = -1) || sIx (nI jt) (N 6))) (((decide (T 2 (nI jp).toNatClampNeg = 0)) && (sGood (T 17) (N 4))) && !decide (N 5 = 60))) (N 1) ((nPost N T (nI jt)).1 1)) ≤ 3600 by omega)⟩) hP hD hS hA (show 30 + (8 + zmc (sK2 ((sIx (nI jp) 9) && (decide ((nI jt) = -1) || sIx (nI jt) (N 6))) (((decide (T 2 (nI jp).toNatClampNeg = 0)) && (sGood (T 17) (N 4))) && !decide (N 5 = 60))) (N 1) ((nPost N T (nI jt)).1 1)) ≤ 38 by omega) (show 700 + (200 + zms (sK2 ((sIx (nI jp) 9) && (decide ((nI jt) = -1) || sIx (nI jt) (N 6))) (((decide (T 2 (nI jp).toNatClampNeg = 0)) && (sGood (T 17) (N 4))) && !decide (N 5 = 60))) (N 1) ((nPost N T (nI jt)).1 1)) ≤ 900 by omega) (fun rz_28 zw_28 Hz Lz hq hP hD hS => ?_)
      obtain ⟨hr9, hw9⟩ := hq.2 (by rw [hkz_447]; decide)
      rw [hw9] at hP hD
      rw [hr9, show zCx [-7100, -7300] (sK2 ((sIx (nI jp) 9) && (decide ((nI jt) = -1) || sIx (nI jt) (N 6))) (((decide (T 2 (nI jp).toNatClampNeg = 0)) && (sGood (T 17) (N 4))) && !decide (N 5 = 60))) = (-7300) from by rw [hkz_447]; rfl]
      refine lv_sipush (v := (-7300)) hx hb dL_chats_450 (by decide) ?_
      refine lv_icmp_ne (tgt := 460) hx hb dL_chats_453 (by decide) (fun zc_29 => absurd zc_29 (by decide)) (fun _ => ?_)
      refine lv_iconst (v := 1) hx hb dL_chats_456 (by decide) ?_
      refine lv_goto (tgt := 461) hx hb dL_chats_457 (by decide) ?_
      exact z_widen (k := 600) (n := 3600) (show 38 ≤ 600 by omega) (show 900 ≤ 3600 by omega) (W.zret (v := 1) hx hb hr rfl (fun t ht hW => ⟨⟨1, (([(u 0, .inl (G.2 1, 64, .inr (.inl E))), (u 1, .inl (G.2 0, 8, .inl (F 1))), (u 2, .inl (G.2 0, 3, .inl (F 2))), (u 3, .inl (G.2 0, 3, .inl (F 3))), (u 4, .inl (G.2 0, 40, .inl (F 4))), (u 5, .inl (G.2 0, 40, .inl (F 5))), (u 6, .inl (G.2 0, 9, .inl (F 6))), (u 7, .inl (G.2 0, 12, .inl (F 7))), (u 8, .inl (G.2 0, 12, .inl (F 8))), (u 9, .inl (G.2 0, 10, .inl (F 9)))] : va_W) ++ w), rfl, ⟨rfl, N, T, E, F, w, rfl, ⟨A, mc, g, hC⟩, hR, (hJ.mono (by omega))⟩, ⟨by rw [ht]; exact hP, hD⟩⟩, hS.F ht⟩) hS.2.2 dL_chats_461 hlocks)

set_option maxHeartbeats 4000000 in
set_option maxRecDepth 100000 in
theorem vchats_338 {p : Program} {l : Launch} {e : Env} {s : State} {m : MethodId} {below : List Frame} {meth : Method} {c : Code} {G : zG} {d : Nat} {r u : Nat → Nat} {act x y : Int32} {Aw : Nat → Prop} (hst : l.stackTraces = false) (hx : p.tables.exec = Jvm.exec) (hb : c.code = cL_chats) (hr : meth.sig.returnType = some .boolean) (hml : c.maxLocals = 17) (hown : s.vm.findClass RL = some m.cls) (hts : ∀ w ∈ wsL_chats, w.before ([.ref (r 0), .int act, .int x, .int y, .ref (u 0), .ref (u 7), .ref (u 8), .ref (u 9)] : List Value).toArray s = true) (hlocks : meth.locks = false) (hK : va_K G.1 vwCl (zT G.2) s) (hZ : zCe Aw d s s.heap) (hLx : zLx s) (hA : ∀ q : Nat, s.heap.size ≤ q → Aw q) {A : Nat → Nat} {mc : Nat → Int32} {g : Nat → Nat → Int32} {N : Nat → Nat} {T : Nat → Nat → Int32} {w : va_W} {E : Nat → Int64} {F : Nat → Nat → Int32} {K : Nat} (hC : sCQ G d r A mc g N T w) (hR : sLR N T E F) (hJ : sLJ N T K) (hK5 : K ≤ 400) (hh9 : N 1 ≤ 90 ∧ N 0 ≤ 1900) {jp : Nat} (hjp : jp < 9) {H : Heap} {locs : List Loc} (hP : va_P G.1 vwCl (([(u 0, .inl (G.2 1, 64, .inr (.inl E))), (u 1, .inl (G.2 0, 8, .inl (F 1))), (u 2, .inl (G.2 0, 3, .inl (F 2))), (u 3, .inl (G.2 0, 3, .inl (F 3))), (u 4, .inl (G.2 0, 40, .inl (F 4))), (u 5, .inl (G.2 0, 40, .inl (F 5))), (u 6, .inl (G.2 0, 9, .inl (F 6))), (u 7, .inl (G.2 0, 12, .inl (F 7))), (u 8, .inl (G.2 0, 12, .inl (F 8))), (u 9, .inl (G.2 0, 10, .inl (F 9)))] : va_W) ++ w) H) (hD : va_D Aw (([(u 0, .inl (G.2 1, 64, .inr (.inl E))), (u 1, .inl (G.2 0, 8, .inl (F 1))), (u 2, .inl (G.2 0, 3, .inl (F 2))), (u 3, .inl (G.2 0, 3, .inl (F 3))), (u 4, .inl (G.2 0, 40, .inl (F 4))), (u 5, .inl (G.2 0, 40, .inl (F 5))), (u 6, .inl (G.2 0, 9, .inl (F 6))), (u 7, .inl (G.2 0, 12, .inl (F 7))), (u 8, .inl (G.2 0, 12, .inl (F 8))), (u 9, .inl (G.2 0, 10, .inl (F 9)))] : va_W) ++ w)) (hS : va_S Aw s.heap H locs) {ls : Array Slot} (hl : lv_has ls 17 [(0, .ref (r 0)), (1, .int act), (2, .int x), (3, .int y), (4, .ref (u 0)), (5, .ref (u 7)), (6, .ref (u 8)), (7, .ref (u 9)), (8, .int (nI jp))]) : W p l e (headSpec wsL_chats ({ frames := 9, cells := 600, slots := 3600, locals := 219 })).room s m ([.ref (r 0), .int act, .int x, .int y, .ref (u 0), .ref (u 7), .ref (u 8), .ref (u 9)] : List Value).toArray below meth c H locs 0 0 (MQ below (va_Qi (fun (r1 : Int32) (wz : va_W) => r1 = 1 ∧ ∃ (N2 : Nat → Nat) (T2 : Nat → Nat → Int32) (E2 : Nat → Int64) (F2 : Nat → Nat → Int32) (w2 : va_W), wz = LW G u E2 F2 ++ w2 ∧ sCO G d r N2 T2 w2 ∧ sLR N2 T2 E2 F2 ∧ sLJ N2 T2 (K + 2)) (zB G Aw) Aw) ([.ref (r 0), .int act, .int x, .int y, .ref (u 0), .ref (u 7), .ref (u 8), .ref (u 9)] : List Value).toArray s 600 3600 Aw) (F0 m 338 ls []) := by
  have hQ := hR.q hJ
  obtain ⟨hg0, hg1, hg2, hg3, hg4, hg5, hg6, hg7, hg8⟩ := hR.2.2.2.2.2.2.2.2.2
  obtain ⟨⟨hb1, hb0, hb3, hb4, hb5⟩, hlv, hlm, hLH⟩ := id hJ.2
  obtain ⟨⟨hi0, hi2, hi3, hi4, hi5, hi6, hi1⟩, hiB, hiE, hiT, hiA, hiA0, hiM, hiK, hiK0, hiX⟩ := id hJ.1.1
  have hLG := hJ.1.2
  have hS0z : va_S Aw s.heap s.heap [] := va_S.rf
  refine lv_iload_n hx hb dL_chats_338 rfl (lv_at hl 3 rfl) ?_
  refine lv_aload hx hb dL_chats_339 (lv_at hl 7 rfl) ?_
  refine lv_bipush (v := 7) hx hb dL_chats_341 (by decide) ?_
  refine va_iald hx hb hK (z_apL hP) 9 0 rfl rfl (vp_in_nI (n := 7) (by decide) (by decide)) dL_chats_343 ?_
  refine W.eq (g2 := F0 m 344 ls [.int (nI (N 6)), .int y]) (by rw [show (F 9) (7 : Int32).toNatClampNeg = nI (N 6) from hg7]) ?_
  refine lv_iconst (v := 1) hx hb dL_chats_344 (by decide) ?_
  refine lv_iadd hx hb dL_chats_345 ?_
  refine W.eq (g2 := F0 m 346 ls [.int (nI (N 6 + 1)), .int y]) (by first | (rw [nI_1]; done) | (rw [nI_1]; rfl)) ?_
  refine z_csi (va_Run.run (va_runS (As := [.int y, .int (nI (N 6 + 1))]) (rest := []) ⟨hx, hb, hml, hown, hts⟩ (c_L_low l G y (N 6 + 1) (by omega) (by omega)) (va_cwS 2 hts gL_chats_L_low rfl rfl rfl (by decide +kernel) ⟨Nat.le_of_ble_eq_true rfl, Nat.le_of_ble_eq_true rfl⟩) (z_ps hK z_none) rfl rfl hl.1 rfl (lv_room (Nat.le_of_ble_eq_true rfl)) dL_chats_346 ⟨(show 0 + 0 ≤ 600 by omega), (show 0 + 0 ≤ 3600 by omega)⟩)) (fun zr_1 hzr_1 => ?_)
  obtain ⟨jt, hjt, rfl⟩ := hzr_1
  refine lv_istore (lv' := [(9, .int (nI jt)), (0, .ref (r 0)), (1, .int act), (2, .int x), (3, .int y), (4, .ref (u 0)), (5, .ref (u 7)), (6, .ref (u 8)), (7, .ref (u 9)), (8, .int (nI jp))]) hx hb dL_chats_349 hl (by decide) rfl (fun ls hl => ?_)
  refine lv_aload_n hx hb dL_chats_351 rfl (lv_at hl 1 rfl) ?_
  refine lv_bipush (v := 9) hx hb dL_chats_352 (by decide) ?_
  refine lv_iconst (v := (-1)) hx hb dL_chats_354 (by decide) ?_
  have hkz_355 : sK2 ((sIx (9 : Int32) 9) && (decide ((-1 : Int32) = -1) || sIx (-1 : Int32) (N 6))) (((decide (T 2 (9 : Int32).toNatClampNeg = 0)) && (sGood (T 17) (N 4))) && !decide (N 5 = 60)) = 1 := (sK2_1' (sAnd_l (show sIx (9 : Int32) 9 = false from by decide)))
  have hzb_355 : (8 + zmc (sK2 ((sIx (9 : Int32) 9) && (decide ((-1 : Int32) = -1) || sIx (-1 : Int32) (N 6))) (((decide (T 2 (9 : Int32).toNatClampNeg = 0)) && (sGood (T 17) (N 4))) && !decide (N 5 = 60))) (N 1) ((nPost N T (-1 : Int32)).1 1)) ≤ 8 ∧ (200 + zms (sK2 ((sIx (9 : Int32) 9) && (decide ((-1 : Int32) = -1) || sIx (-1 : Int32) (N 6))) (((decide (T 2 (9 : Int32).toNatClampNeg = 0)) && (sGood (T 17) (N 4))) && !decide (N 5 = 60))) (N 1) ((nPost N T (-1 : Int32)).1 1)) ≤ 200 := zmc_n8 (by rw [hkz_355]; decide)
  refine z_xR (G := G) (w := w) (c2 := 8) (s2 := 200) (vx_runSX (hh := [(0, 7, 10, 14), (0, 7, 16, 18)]) (As := [.ref (r 0), .int 9, .int (-1)]) (rest := []) ⟨hx, hb, hml, hown, hts⟩ (h_post l hst G d r A mc g N T w K (9 : Int32) (-1 : Int32) H.size hC hJ.1.1 (by omega) ) (vx_cwSW 3 hts gL_chats_L_post rfl rfl rfl (by decide +kernel) ⟨Nat.le_of_ble_eq_true rfl, Nat.le_of_ble_eq_true rfl⟩) (z_hs hK (z_apR hP) (z_dR hD) hZ hLx hS hA) rfl rfl hl.1 rfl (lv_room (Nat.le_of_ble_eq_true rfl)) dL_chats_355 ⟨(show 0 + (8 + zmc (sK2 ((sIx (9 : Int32) 9) && (decide ((-1 : Int32) = -1) || sIx (-1 : Int32) (N 6))) (((decide (T 2 (9 : Int32).toNatClampNeg = 0)) && (sGood (T 17) (N 4))) && !decide (N 5 = 60))) (N 1) ((nPost N T (-1 : Int32)).1 1)) ≤ 600 by omega), (show 0 + (200 + zms (sK2 ((sIx (9 : Int32) 9) && (decide ((-1 : Int32) = -1) || sIx (-1 : Int32) (N 6))) (((decide (T 2 (9 : Int32).toNatClampNeg = 0)) && (sGood (T 17) (N 4))) && !decide (N 5 = 60))) (N 1) ((nPost N T (-1 : Int32)).1 1)) ≤ 3600 by omega)⟩) hP hD hS hA (show 0 + (8 + zmc (sK2 ((sIx (9 : Int32) 9) && (decide ((-1 : Int32) = -1) || sIx (-1 : Int32) (N 6))) (((decide (T 2 (9 : Int32).toNatClampNeg = 0)) && (sGood (T 17) (N 4))) && !decide (N 5 = 60))) (N 1) ((nPost N T (-1 : Int32)).1 1)) ≤ 8 by omega) (show 0 + (200 + zms (sK2 ((sIx (9 : Int32) 9) && (decide ((-1 : Int32) = -1) || sIx (-1 : Int32) (N 6))) (((decide (T 2 (9 : Int32).toNatClampNeg = 0)) && (sGood (T 17) (N 4))) && !decide (N 5 = 60))) (N 1) ((nPost N T (-1 : Int32)).1 1)) ≤ 200 by omega) (fun rz_2 zw_2 Hz Lz hq hP hD hS => ?_)
  obtain ⟨hr9, hw9⟩ := hq.2 (by rw [hkz_355]; decide)
  rw [hw9] at hP hD
  rw [hr9, show zCx [-7100, -7300] (sK2 ((sIx (9 : Int32) 9) && (decide ((-1 : Int32) = -1) || sIx (-1 : Int32) (N 6))) (((decide (T 2 (9 : Int32).toNatClampNeg = 0)) && (sGood (T 17) (N 4))) && !decide (N 5 = 60))) = (-7100) from by rw [hkz_355]; rfl]
  refine lv_sipush (v := (-7100)) hx hb dL_chats_358 (by decide) ?_
  refine lv_icmp_ne (tgt := 395) hx hb dL_chats_361 (by decide) (fun zc_3 => absurd zc_3 (by decide)) (fun _ => ?_)
  refine lv_aload_n hx hb dL_chats_364 rfl (lv_at hl 1 rfl) ?_
  refine lv_iload hx hb dL_chats_365 (lv_at hl 9 rfl) ?_
  refine lv_aload hx hb dL_chats_367 (lv_at hl 8 rfl) ?_
  refine lv_bipush (v := 7) hx hb dL_chats_369 (by decide) ?_
  refine va_iald hx hb hK (z_apL hP) 9 0 rfl rfl (vp_in_nI (n := 7) (by decide) (by decide)) dL_chats_371 ?_
  refine W.eq (g2 := F0 m 372 ls [.int (nI (N 6)), .int (nI jp), .ref (r 0)]) (by rw [show (F 9) (7 : Int32).toNatClampNeg = nI (N 6) from hg7]) ?_
  have hkz_372 : sK2 ((sIx (nI jp) 9) && (decide ((nI (N 6)) = -1) || sIx (nI (N 6)) (N 6))) (((decide (T 2 (nI jp).toNatClampNeg = 0)) && (sGood (T 17) (N 4))) && !decide (N 5 = 60)) = 1 := (sK2_1' (sAnd_r (by rw [decide_eq_false (zNm1 (by omega)), sIx_e (by omega)]; rfl)))
  have hzb_372 : (8 + zmc (sK2 ((sIx (nI jp) 9) && (decide ((nI (N 6)) = -1) || sIx (nI (N 6)) (N 6))) (((decide (T 2 (nI jp).toNatClampNeg = 0)) && (sGood (T 17) (N 4))) && !decide (N 5 = 60))) (N 1) ((nPost N T (nI (N 6))).1 1)) ≤ 8 ∧ (200 + zms (sK2 ((sIx (nI jp) 9) && (decide ((nI (N 6)) = -1) || sIx (nI (N 6)) (N 6))) (((decide (T 2 (nI jp).toNatClampNeg = 0)) && (sGood (T 17) (N 4))) && !decide (N 5 = 60))) (N 1) ((nPost N T (nI (N 6))).1 1)) ≤ 200 := zmc_n8 (by rw [hkz_372]; decide)
  refine z_xR (G := G) (w := w) (c2 := 16) (s2 := 400) (vx_runSX (hh := [(0, 7, 10, 14), (0, 7, 16, 18)]) (As := [.ref (r 0), .int (nI jp), .int (nI (N 6))]) (rest := []) ⟨hx, hb, hml, hown, hts⟩ (h_post l hst G d r A mc g N T w K (nI jp) (nI (N 6)) Hz.size hC hJ.1.1 (by omega) ) (vx_cwSW 3 hts gL_chats_L_post rfl rfl rfl (by decide +kernel) ⟨Nat.le_of_ble_eq_true rfl, Nat.le_of_ble_eq_true rfl⟩) (z_hs hK (z_apR hP) (z_dR hD) hZ hLx hS hA) rfl rfl hl.1 rfl (lv_room (Nat.le_of_ble_eq_true rfl)) dL_chats_372 ⟨(show 8 + (8 + zmc (sK2 ((sIx (nI jp) 9) && (decide ((nI (N 6)) = -1) || sIx (nI (N 6)) (N 6))) (((decide (T 2 (nI jp).toNatClampNeg = 0)) && (sGood (T 17) (N 4))) && !decide (N 5 = 60))) (N 1) ((nPost N T (nI (N 6))).1 1)) ≤ 600 by omega), (show 200 + (200 + zms (sK2 ((sIx (nI jp) 9) && (decide ((nI (N 6)) = -1) || sIx (nI (N 6)) (N 6))) (((decide (T 2 (nI jp).toNatClampNeg = 0)) && (sGood (T 17) (N 4))) && !decide (N 5 = 60))) (N 1) ((nPost N T (nI (N 6))).1 1)) ≤ 3600 by omega)⟩) hP hD hS hA (show 8 + (8 + zmc (sK2 ((sIx (nI jp) 9) && (decide ((nI (N 6)) = -1) || sIx (nI (N 6)) (N 6))) (((decide (T 2 (nI jp).toNatClampNeg = 0)) && (sGood (T 17) (N 4))) && !decide (N 5 = 60))) (N 1) ((nPost N T (nI (N 6))).1 1)) ≤ 16 by omega) (show 200 + (200 + zms (sK2 ((sIx (nI jp) 9) && (decide ((nI (N 6)) = -1) || sIx (nI (N 6)) (N 6))) (((decide (T 2 (nI jp).toNatClampNeg = 0)) && (sGood (T 17) (N 4))) && !decide (N 5 = 60))) (N 1) ((nPost N T (nI (N 6))).1 1)) ≤ 400 by omega) (fun rz_4 zw_4 Hz Lz hq hP hD hS => ?_)
  obtain ⟨hr9, hw9⟩ := hq.2 (by rw [hkz_372]; decide)
  rw [hw9] at hP hD
  rw [hr9, show zCx [-7100, -7300] (sK2 ((sIx (nI jp) 9) && (decide ((nI (N 6)) = -1) || sIx (nI (N 6)) (N 6))) (((decide (T 2 (nI jp).toNatClampNeg = 0)) && (sGood (T 17) (N 4))) && !decide (N 5 = 60))) = (-7100) from by rw [hkz_372]; rfl]
  refine lv_sipush (v := (-7100)) hx hb dL_chats_375 (by decide) ?_
  refine lv_icmp_ne (tgt := 395) hx hb dL_chats_378 (by decide) (fun zc_5 => absurd zc_5 (by decide)) (fun _ => ?_)
  refine lv_aload_n hx hb dL_chats_381 rfl (lv_at hl 1 rfl) ?_
  refine lv_iload hx hb dL_chats_382 (lv_at hl 9 rfl) ?_
  refine lv_bipush (v := (-2)) hx hb dL_chats_384 (by decide) ?_
  have hkz_386 : sK2 ((sIx (nI jp) 9) && (decide ((-2 : Int32) = -1) || sIx (-2 : Int32) (N 6))) (((decide (T 2 (nI jp).toNatClampNeg = 0)) && (sGood (T 17) (N 4))) && !decide (N 5 = 60)) = 1 := (sK2_1' (sAnd_r (by rw [zIx_neg (show (-2 : Int32) < 0 by decide)]; rfl)))
  have hzb_386 : (8 + zmc (sK2 ((sIx (nI jp) 9) && (decide ((-2 : Int32) = -1) || sIx (-2 : Int32) (N 6))) (((decide (T 2 (nI jp).toNatClampNeg = 0)) && (sGood (T 17) (N 4))) && !decide (N 5 = 60))) (N 1) ((nPost N T (-2 : Int32)).1 1)) ≤ 8 ∧ (200 + zms (sK2 ((sIx (nI jp) 9) && (decide ((-2 : Int32) = -1) || sIx (-2 : Int32) (N 6))) (((decide (T 2 (nI jp).toNatClampNeg = 0)) && (sGood (T 17) (N 4))) && !decide (N 5 = 60))) (N 1) ((nPost N T (-2 : Int32)).1 1)) ≤ 200 := zmc_n8 (by rw [hkz_386]; decide)
  refine z_xR (G := G) (w := w) (c2 := 24) (s2 := 600) (vx_runSX (hh := [(0, 7, 10, 14), (0, 7, 16, 18)]) (As := [.ref (r 0), .int (nI jp), .int (-2)]) (rest := []) ⟨hx, hb, hml, hown, hts⟩ (h_post l hst G d r A mc g N T w K (nI jp) (-2 : Int32) Hz.size hC hJ.1.1 (by omega) ) (vx_cwSW 3 hts gL_chats_L_post rfl rfl rfl (by decide +kernel) ⟨Nat.le_of_ble_eq_true rfl, Nat.le_of_ble_eq_true rfl⟩) (z_hs hK (z_apR hP) (z_dR hD) hZ hLx hS hA) rfl rfl hl.1 rfl (lv_room (Nat.le_of_ble_eq_true rfl)) dL_chats_386 ⟨(show 16 + (8 + zmc (sK2 ((sIx (nI jp) 9) && (decide ((-2 : Int32) = -1) || sIx (-2 : Int32) (N 6))) (((decide (T 2 (nI jp).toNatClampNeg = 0)) && (sGood (T 17) (N 4))) && !decide (N 5 = 60))) (N 1) ((nPost N T (-2 : Int32)).1 1)) ≤ 600 by omega), (show 400 + (200 + zms (sK2 ((sIx (nI jp) 9) && (decide ((-2 : Int32) = -1) || sIx (-2 : Int32) (N 6))) (((decide (T 2 (nI jp).toNatClampNeg = 0)) && (sGood (T 17) (N 4))) && !decide (N 5 = 60))) (N 1) ((nPost N T (-2 : Int32)).1 1)) ≤ 3600 by omega)⟩) hP hD hS hA (show 16 + (8 + zmc (sK2 ((sIx (nI jp) 9) && (decide ((-2 : Int32) = -1) || sIx (-2 : Int32) (N 6))) (((decide (T 2 (nI jp).toNatClampNeg = 0)) && (sGood (T 17) (N 4))) && !decide (N 5 = 60))) (N 1) ((nPost N T (-2 : Int32)).1 1)) ≤ 24 by omega) (show 400 + (200 + zms (sK2 ((sIx (nI jp) 9) && (decide ((-2 : Int32) = -1) || sIx (-2 : Int32) (N 6))) (((decide (T 2 (nI jp).toNatClampNeg = 0)) && (sGood (T 17) (N 4))) && !decide (N 5 = 60))) (N 1) ((nPost N T (-2 : Int32)).1 1)) ≤ 600 by omega) (fun rz_6 zw_6 Hz Lz hq hP hD hS => ?_)
  obtain ⟨hr9, hw9⟩ := hq.2 (by rw [hkz_386]; decide)
  rw [hw9] at hP hD
  rw [hr9, show zCx [-7100, -7300] (sK2 ((sIx (nI jp) 9) && (decide ((-2 : Int32) = -1) || sIx (-2 : Int32) (N 6))) (((decide (T 2 (nI jp).toNatClampNeg = 0)) && (sGood (T 17) (N 4))) && !decide (N 5 = 60))) = (-7100) from by rw [hkz_386]; rfl]
  refine lv_sipush (v := (-7100)) hx hb dL_chats_389 (by decide) ?_
  refine lv_icmp_eq (tgt := 397) hx hb dL_chats_392 (by decide) (fun _ => ?_) (fun zc_7 => absurd zc_7 (by decide))
  refine lv_iload hx hb dL_chats_397 (lv_at hl 0 rfl) ?_
  refine lv_aload hx hb dL_chats_399 (lv_at hl 8 rfl) ?_
  refine lv_bipush (v := 7) hx hb dL_chats_401 (by decide) ?_
  refine va_iald hx hb hK (z_apL hP) 9 0 rfl rfl (vp_in_nI (n := 7) (by decide) (by decide)) dL_chats_403 ?_
  refine W.eq (g2 := F0 m 404 ls [.int (nI (N 6)), .int (nI jt)]) (by rw [show (F 9) (7 : Int32).toNatClampNeg = nI (N 6) from hg7]) ?_
  refine lv_icmp_eq (tgt := 414) hx hb dL_chats_404 (by decide) (fun zc_8 => ?_) (fun zc_8 => ?_)
  · skip
    skip
    refine lv_iconst (v := (-1)) hx hb dL_chats_414 (by decide) ?_
    refine lv_goto (tgt := 420) hx hb dL_chats_415 (by decide) ?_
    refine lv_istore (lv' := [(10, .int (-1)), (9, .int (nI jt)), (0, .ref (r 0)), (1, .int act), (2, .int x), (3, .int y), (4, .ref (u 0)), (5, .ref (u 7)), (6, .ref (u 8)), (7, .ref (u 9)), (8, .int (nI jp))]) hx hb dL_chats_420 hl (by decide) rfl (fun ls hl => ?_)
    exact z_widen (show 24 ≤ 30 by omega) (show 600 ≤ 700 by omega) (vchats_422a hst hx hb hr hml hown hts hlocks hK hZ hLx hA hC hR hJ hK5 hh9 hjp hP hD hS (lv_sub hl [2, 3, 4, 5, 6, 7, 8, 9, 10, 0] rfl))
  · skip
    have hjn : ¬ jt = N 6 := fun z => zc_8 (by rw [z])
    refine lv_iload_n hx hb dL_chats_407 rfl (lv_at hl 4 rfl) ?_
    refine lv_bipush (v := 96) hx hb dL_chats_408 (by decide) ?_
    refine lv_iand hx hb dL_chats_410 ?_
    refine lv_if_ne (tgt := 418) hx hb dL_chats_411 (by decide) (fun zc_9 => ?_) (fun zc_9 => ?_)
    · skip
      refine lv_iload hx hb dL_chats_418 (lv_at hl 0 rfl) ?_
      refine lv_istore (lv' := [(10, .int (nI jt)), (9, .int (nI jt)), (0, .ref (r 0)), (1, .int act), (2, .int x), (3, .int y), (4, .ref (u 0)), (5, .ref (u 7)), (6, .ref (u 8)), (7, .ref (u 9)), (8, .int (nI jp))]) hx hb dL_chats_420 hl (by decide) rfl (fun ls hl => ?_)
      exact z_widen (show 24 ≤ 30 by omega) (show 600 ≤ 700 by omega) (vchats_422b hst hx hb hr hml hown hts hlocks hK hZ hLx hA hC hR hJ hK5 hh9 hjp (by omega) hP hD hS (lv_sub hl [2, 3, 4, 5, 6, 7, 8, 9, 10, 0] rfl))
    · skip
      refine lv_iconst (v := (-1)) hx hb dL_chats_414 (by decide) ?_
      refine lv_goto (tgt := 420) hx hb dL_chats_415 (by decide) ?_
      refine lv_istore (lv' := [(10, .int (-1)), (9, .int (nI jt)), (0, .ref (r 0)), (1, .int act), (2, .int x), (3, .int y), (4, .ref (u 0)), (5, .ref (u 7)), (6, .ref (u 8)), (7, .ref (u 9)), (8, .int (nI jp))]) hx hb dL_chats_420 hl (by decide) rfl (fun ls hl => ?_)
      exact z_widen (show 24 ≤ 30 by omega) (show 600 ≤ 700 by omega) (vchats_422a hst hx hb hr hml hown hts hlocks hK hZ hLx hA hC hR hJ hK5 hh9 hjp hP hD hS (lv_sub hl [2, 3, 4, 5, 6, 7, 8, 9, 10, 0] rfl))

set_option maxHeartbeats 4000000 in
set_option maxRecDepth 100000 in
theorem vchats_814 {p : Program} {l : Launch} {e : Env} {s : State} {m : MethodId} {below : List Frame} {meth : Method} {c : Code} {G : zG} {d : Nat} {r u : Nat → Nat} {act x y : Int32} {Aw : Nat → Prop} (hst : l.stackTraces = false) (hx : p.tables.exec = Jvm.exec) (hb : c.code = cL_chats) (hr : meth.sig.returnType = some .boolean) (hml : c.maxLocals = 17) (hown : s.vm.findClass RL = some m.cls) (hts : ∀ w ∈ wsL_chats, w.before ([.ref (r 0), .int act, .int x, .int y, .ref (u 0), .ref (u 7), .ref (u 8), .ref (u 9)] : List Value).toArray s = true) (hlocks : meth.locks = false) (hK : va_K G.1 vwCl (zT G.2) s) (hZ : zCe Aw d s s.heap) (hLx : zLx s) (hA : ∀ q : Nat, s.heap.size ≤ q → Aw q) {A : Nat → Nat} {mc : Nat → Int32} {g : Nat → Nat → Int32} {N : Nat → Nat} {T : Nat → Nat → Int32} {w : va_W} {E : Nat → Int64} {F : Nat → Nat → Int32} {K : Nat} (hC : sCQ G d r A mc g N T w) (hR : sLR N T E F) (hJ : sLJ N T K) (hK5 : K ≤ 400) (hh9 : N 1 ≤ 90 ∧ N 0 ≤ 1900) {pz : Int32} {jt : Nat} (hpz : vp_in pz 9) (hjt : jt < N 6) {H : Heap} {locs : List Loc} (hP : va_P G.1 vwCl (([(u 0, .inl (G.2 1, 64, .inr (.inl E))), (u 1, .inl (G.2 0, 8, .inl (F 1))), (u 2, .inl (G.2 0, 3, .inl (F 2))), (u 3, .inl (G.2 0, 3, .inl (F 3))), (u 4, .inl (G.2 0, 40, .inl (F 4))), (u 5, .inl (G.2 0, 40, .inl (F 5))), (u 6, .inl (G.2 0, 9, .inl (F 6))), (u 7, .inl (G.2 0, 12, .inl (F 7))), (u 8, .inl (G.2 0, 12, .inl (F 8))), (u 9, .inl (G.2 0, 10, .inl (F 9)))] : va_W) ++ w) H) (hD : va_D Aw (([(u 0, .inl (G.2 1, 64, .inr (.inl E))), (u 1, .inl (G.2 0, 8, .inl (F 1))), (u 2, .inl (G.2 0, 3, .inl (F 2))), (u 3, .inl (G.2 0, 3, .inl (F 3))), (u 4, .inl (G.2 0, 40, .inl (F 4))), (u 5, .inl (G.2 0, 40, .inl (F 5))), (u 6, .inl (G.2 0, 9, .inl (F 6))), (u 7, .inl (G.2 0, 12, .inl (F 7))), (u 8, .inl (G.2 0, 12, .inl (F 8))), (u 9, .inl (G.2 0, 10, .inl (F 9)))] : va_W) ++ w)) (hS : va_S Aw s.heap H locs) {ls : Array Slot} (hl : lv_has ls 17 [(0, .ref (r 0)), (1, .int act), (2, .int x), (3, .int y), (4, .ref (u 0)), (5, .ref (u 7)), (6, .ref (u 8)), (7, .ref (u 9)), (8, .int pz), (9, .int (nI jt)), (10, .int (T 18 (nI jt).toNatClampNeg))]) : W p l e (headSpec wsL_chats ({ frames := 9, cells := 600, slots := 3600, locals := 219 })).room s m ([.ref (r 0), .int act, .int x, .int y, .ref (u 0), .ref (u 7), .ref (u 8), .ref (u 9)] : List Value).toArray below meth c H locs 10 60 (MQ below (va_Qi (fun (r1 : Int32) (wz : va_W) => r1 = 1 ∧ ∃ (N2 : Nat → Nat) (T2 : Nat → Nat → Int32) (E2 : Nat → Int64) (F2 : Nat → Nat → Int32) (w2 : va_W), wz = LW G u E2 F2 ++ w2 ∧ sCO G d r N2 T2 w2 ∧ sLR N2 T2 E2 F2 ∧ sLJ N2 T2 (K + 2)) (zB G Aw) Aw) ([.ref (r 0), .int act, .int x, .int y, .ref (u 0), .ref (u 7), .ref (u 8), .ref (u 9)] : List Value).toArray s 600 3600 Aw) (F0 m 814 ls []) := by
  have hQ := hR.q hJ
  obtain ⟨hg0, hg1, hg2, hg3, hg4, hg5, hg6, hg7, hg8⟩ := hR.2.2.2.2.2.2.2.2.2
  obtain ⟨⟨hb1, hb0, hb3, hb4, hb5⟩, hlv, hlm, hLH⟩ := id hJ.2
  obtain ⟨⟨hi0, hi2, hi3, hi4, hi5, hi6, hi1⟩, hiB, hiE, hiT, hiA, hiA0, hiM, hiK, hiK0, hiX⟩ := id hJ.1.1
  have hLG := hJ.1.2
  have hS0z : va_S Aw s.heap s.heap [] := va_S.rf
  refine lv_iload hx hb dL_chats_814 (lv_at hl 10 rfl) ?_
  refine lv_iload hx hb dL_chats_816 (lv_at hl 8 rfl) ?_
  refine lv_icmp_ne (tgt := 833) hx hb dL_chats_818 (by decide) (fun zc_1 => ?_) (fun zc_1 => ?_)
  · skip
    have hne9 := zc_1
    refine lv_aload_n hx hb dL_chats_833 rfl (lv_at hl 0 rfl) ?_
    refine lv_iload hx hb dL_chats_834 (lv_at hl 8 rfl) ?_
    refine lv_iload hx hb dL_chats_836 (lv_at hl 9 rfl) ?_
    have hkz_838 : sK2 ((sIx pz 9) && (sIx (nI jt) (N 6))) ((decide (T 18 (nI jt).toNatClampNeg = pz)) && (decide (T 2 pz.toNatClampNeg = 0))) = 2 := (sK2_2' (sAnd_y (sIx_in.mpr hpz) (sIx_y hjt (by omega))) (sAnd_l (decide_eq_false hne9)))
    have hzb_838 : (8 + zmc (sK2 ((sIx pz 9) && (sIx (nI jt) (N 6))) ((decide (T 18 (nI jt).toNatClampNeg = pz)) && (decide (T 2 pz.toNatClampNeg = 0)))) (N 1) (N 1 + 1)) ≤ 8 ∧ (200 + zms (sK2 ((sIx pz 9) && (sIx (nI jt) (N 6))) ((decide (T 18 (nI jt).toNatClampNeg = pz)) && (decide (T 2 pz.toNatClampNeg = 0)))) (N 1) (N 1 + 1)) ≤ 200 := zmc_n8 (by rw [hkz_838]; decide)
    refine z_xR (G := G) (w := w) (c2 := 18) (s2 := 260) (vx_runSX (hh := [(0, 6, 9, 14), (0, 6, 14, 18)]) (As := [.ref (r 0), .int pz, .int (nI jt)]) (rest := []) ⟨hx, hb, hml, hown, hts⟩ (h_finish l hst G d r A mc g N T w K pz (nI jt) H.size hC hJ.1.1 (by omega) ) (vx_cwSW 3 hts gL_chats_L_finish rfl rfl rfl (by decide +kernel) ⟨Nat.le_of_ble_eq_true rfl, Nat.le_of_ble_eq_true rfl⟩) (z_hs hK (z_apR hP) (z_dR hD) hZ hLx hS hA) rfl rfl hl.1 rfl (lv_room (Nat.le_of_ble_eq_true rfl)) dL_chats_838 ⟨(show 10 + (8 + zmc (sK2 ((sIx pz 9) && (sIx (nI jt) (N 6))) ((decide (T 18 (nI jt).toNatClampNeg = pz)) && (decide (T 2 pz.toNatClampNeg = 0)))) (N 1) (N 1 + 1)) ≤ 600 by omega), (show 60 + (200 + zms (sK2 ((sIx pz 9) && (sIx (nI jt) (N 6))) ((decide (T 18 (nI jt).toNatClampNeg = pz)) && (decide (T 2 pz.toNatClampNeg = 0)))) (N 1) (N 1 + 1)) ≤ 3600 by omega)⟩) hP hD hS hA (show 10 + (8 + zmc (sK2 ((sIx pz 9) && (sIx (nI jt) (N 6))) ((decide (T 18 (nI jt).toNatClampNeg = pz)) && (decide (T 2 pz.toNatClampNeg = 0)))) (N 1) (N 1 + 1)) ≤ 18 by omega) (show 60 + (200 + zms (sK2 ((sIx pz 9) && (sIx (nI jt) (N 6))) ((decide (T 18 (nI jt).toNatClampNeg = pz)) && (decide (T 2 pz.toNatClampNeg = 0)))) (N 1) (N 1 + 1)) ≤ 260 by omega) (fun rz_2 zw_2 Hz Lz hq hP hD hS => ?_)
    obtain ⟨hr9, hw9⟩ := hq.2 (by rw [hkz_838]; decide)
    rw [hw9] at hP hD
    rw [hr9, show zCx [-7100, -7300] (sK2 ((sIx pz 9) && (sIx (nI jt) (N 6))) ((decide (T 18 (nI jt).toNatClampNeg = pz)) && (decide (T 2 pz.toNatClampNeg = 0)))) = (-7300) from by rw [hkz_838]; rfl]
    refine lv_sipush (v := (-7300)) hx hb dL_chats_841 (by decide) ?_
    refine lv_icmp_ne (tgt := 851) hx hb dL_chats_844 (by decide) (fun zc_3 => absurd zc_3 (by decide)) (fun _ => ?_)
    refine lv_iconst (v := 1) hx hb dL_chats_847 (by decide) ?_
    refine lv_goto (tgt := 852) hx hb dL_chats_848 (by decide) ?_
    exact z_widen (k := 600) (n := 3600) (show 18 ≤ 600 by omega) (show 260 ≤ 3600 by omega) (W.zret (v := 1) hx hb hr rfl (fun t ht hW => ⟨⟨1, (([(u 0, .inl (G.2 1, 64, .inr (.inl E))), (u 1, .inl (G.2 0, 8, .inl (F 1))), (u 2, .inl (G.2 0, 3, .inl (F 2))), (u 3, .inl (G.2 0, 3, .inl (F 3))), (u 4, .inl (G.2 0, 40, .inl (F 4))), (u 5, .inl (G.2 0, 40, .inl (F 5))), (u 6, .inl (G.2 0, 9, .inl (F 6))), (u 7, .inl (G.2 0, 12, .inl (F 7))), (u 8, .inl (G.2 0, 12, .inl (F 8))), (u 9, .inl (G.2 0, 10, .inl (F 9)))] : va_W) ++ w), rfl, ⟨rfl, N, T, E, F, w, rfl, ⟨A, mc, g, hC⟩, hR, (hJ.mono (by omega))⟩, ⟨by rw [ht]; exact hP, hD⟩⟩, hS.F ht⟩) hS.2.2 dL_chats_852 hlocks)
  · skip
    have heq9 := zc_1
    refine lv_aload hx hb dL_chats_821 (lv_at hl 4 rfl) ?_
    refine lv_aload hx hb dL_chats_823 (lv_at hl 7 rfl) ?_
    refine lv_iload hx hb dL_chats_825 (lv_at hl 8 rfl) ?_
    refine z_csi (va_Run.run (va_runS (As := [.ref (u 0), .ref (u 9), .int pz]) (rest := []) ⟨hx, hb, hml, hown, hts⟩ (c_L_hasLeft l G u E F N T pz hQ hpz) (va_cwS 3 hts gL_chats_L_hasLeft rfl rfl rfl (by decide +kernel) ⟨Nat.le_of_ble_eq_true rfl, Nat.le_of_ble_eq_true rfl⟩) (z_ps hK (z_apL hP)) rfl rfl hl.1 rfl (lv_room (Nat.le_of_ble_eq_true rfl)) dL_chats_827 ⟨(show 10 + 0 ≤ 600 by omega), (show 60 + 0 ≤ 3600 by omega)⟩)) (fun zr_4 hzr_4 => ?_)
    subst hzr_4
    refine lv_if_eq (tgt := 853) hx hb dL_chats_830 (by decide) (fun zc_5 => ?_) (fun zc_5 => ?_)
    · skip
      have hlf := zc_5
      refine lv_aload hx hb dL_chats_853 (lv_at hl 4 rfl) ?_
      refine lv_aload hx hb dL_chats_855 (lv_at hl 7 rfl) ?_
      refine lv_bipush (v := 6) hx hb dL_chats_857 (by decide) ?_
      refine lv_iload hx hb dL_chats_859 (lv_at hl 8 rfl) ?_
      refine lv_iload hx hb dL_chats_861 (lv_at hl 9 rfl) ?_
      refine z_lv (G := G) (w := (LW G u E F)) (wr := w) (va_runS (As := [.ref (u 0), .ref (u 9), .int 6, .int pz, .int (nI jt)]) (rest := []) ⟨hx, hb, hml, hown, hts⟩ (c_L_note l G u E F (T 0) (N 1) (N 0) 6 pz (nI jt) H.size hR.1 (by omega) hg0 hg1 hi0 ⟨6, by decide, rfl⟩ (s_who hpz) ⟨jt, by omega, rfl⟩) (va_cwS 5 hts gL_chats_L_note rfl rfl rfl (by decide +kernel) ⟨Nat.le_of_ble_eq_true rfl, Nat.le_of_ble_eq_true rfl⟩) (z_us hK (z_apL hP) (z_dL hD)) rfl rfl hl.1 rfl (lv_room (Nat.le_of_ble_eq_true rfl)) dL_chats_863 ⟨(show 10 + 0 ≤ 600 by omega), (show 60 + 0 ≤ 3600 by omega)⟩) hP hD hS hA (fun w1 Hz Lz hw hP hD hS => ?_)
      obtain ⟨zE_6, rfl, hzE_6⟩ := hw
      have hP : va_P G.1 vwCl (([(u 0, .inl (G.2 1, 64, .inr (.inl zE_6))), (u 1, .inl (G.2 0, 8, .inl (F 1))), (u 2, .inl (G.2 0, 3, .inl (F 2))), (u 3, .inl (G.2 0, 3, .inl (F 3))), (u 4, .inl (G.2 0, 40, .inl (F 4))), (u 5, .inl (G.2 0, 40, .inl (F 5))), (u 6, .inl (G.2 0, 9, .inl (F 6))), (u 7, .inl (G.2 0, 12, .inl (F 7))), (u 8, .inl (G.2 0, 12, .inl (F 8))), (u 9, .inl (G.2 0, 10, .inl (upd (F 9) 1 (nI (N 1 + 1)))))] : va_W) ++ w) Hz := hP
      have hD : va_D Aw (([(u 0, .inl (G.2 1, 64, .inr (.inl zE_6))), (u 1, .inl (G.2 0, 8, .inl (F 1))), (u 2, .inl (G.2 0, 3, .inl (F 2))), (u 3, .inl (G.2 0, 3, .inl (F 3))), (u 4, .inl (G.2 0, 40, .inl (F 4))), (u 5, .inl (G.2 0, 40, .inl (F 5))), (u 6, .inl (G.2 0, 9, .inl (F 6))), (u 7, .inl (G.2 0, 12, .inl (F 7))), (u 8, .inl (G.2 0, 12, .inl (F 8))), (u 9, .inl (G.2 0, 10, .inl (upd (F 9) 1 (nI (N 1 + 1)))))] : va_W) ++ w) := hD
      have hRn := sLR_fin (p := pz) (x := nI jt) hR hzE_6
      refine lv_aload_n hx hb dL_chats_866 rfl (lv_at hl 0 rfl) ?_
      refine lv_iload hx hb dL_chats_867 (lv_at hl 8 rfl) ?_
      refine lv_iload hx hb dL_chats_869 (lv_at hl 9 rfl) ?_
      have hkz_871 : sK2 ((sIx pz 9) && (sIx (nI jt) (N 6))) ((decide (T 18 (nI jt).toNatClampNeg = pz)) && (decide (T 2 pz.toNatClampNeg = 0))) = 0 := (sK2_ok (sAnd_y (sIx_in.mpr hpz) (sIx_y hjt (by omega))) (sAnd_y (decide_eq_true heq9) (decide_eq_true hlf)))
      have hzb_871 : (8 + zmc (sK2 ((sIx pz 9) && (sIx (nI jt) (N 6))) ((decide (T 18 (nI jt).toNatClampNeg = pz)) && (decide (T 2 pz.toNatClampNeg = 0)))) (N 1) (N 1 + 1)) ≤ 136 ∧ (200 + zms (sK2 ((sIx pz 9) && (sIx (nI jt) (N 6))) ((decide (T 18 (nI jt).toNatClampNeg = pz)) && (decide (T 2 pz.toNatClampNeg = 0)))) (N 1) (N 1 + 1)) ≤ 744 := zmc_b8 (show N 1 + 1 ≤ 128 by omega)
      refine z_xR (G := G) (w := w) (c2 := 146) (s2 := 804) (vx_runSX (hh := [(0, 6, 9, 14), (0, 6, 14, 18)]) (As := [.ref (r 0), .int pz, .int (nI jt)]) (rest := []) ⟨hx, hb, hml, hown, hts⟩ (h_finish l hst G d r A mc g N T w K pz (nI jt) Hz.size hC hJ.1.1 (by omega) ) (vx_cwSW 3 hts gL_chats_L_finish rfl rfl rfl (by decide +kernel) ⟨Nat.le_of_ble_eq_true rfl, Nat.le_of_ble_eq_true rfl⟩) (z_hs hK (z_apR hP) (z_dR hD) hZ hLx hS hA) rfl rfl hl.1 rfl (lv_room (Nat.le_of_ble_eq_true rfl)) dL_chats_871 ⟨(show 10 + (8 + zmc (sK2 ((sIx pz 9) && (sIx (nI jt) (N 6))) ((decide (T 18 (nI jt).toNatClampNeg = pz)) && (decide (T 2 pz.toNatClampNeg = 0)))) (N 1) (N 1 + 1)) ≤ 600 by omega), (show 60 + (200 + zms (sK2 ((sIx pz 9) && (sIx (nI jt) (N 6))) ((decide (T 18 (nI jt).toNatClampNeg = pz)) && (decide (T 2 pz.toNatClampNeg = 0)))) (N 1) (N 1 + 1)) ≤ 3600 by omega)⟩) hP hD hS hA (show 10 + (8 + zmc (sK2 ((sIx pz 9) && (sIx (nI jt) (N 6))) ((decide (T 18 (nI jt).toNatClampNeg = pz)) && (decide (T 2 pz.toNatClampNeg = 0)))) (N 1) (N 1 + 1)) ≤ 146 by omega) (show 60 + (200 + zms (sK2 ((sIx pz 9) && (sIx (nI jt) (N 6))) ((decide (T 18 (nI jt).toNatClampNeg = pz)) && (decide (T 2 pz.toNatClampNeg = 0)))) (N 1) (N 1 + 1)) ≤ 804 by omega) (fun rz_7 zw_7 Hz Lz hq hP hD hS => ?_)
      obtain ⟨hr9, A, mc, g, hC⟩ := hq.1 hkz_871
      rw [hr9]
      refine lv_if_ne (tgt := 881) hx hb dL_chats_874 (by decide) (fun zc_8 => absurd zc_8 (by decide)) (fun _ => ?_)
      refine lv_iconst (v := 1) hx hb dL_chats_877 (by decide) ?_
      refine lv_goto (tgt := 882) hx hb dL_chats_878 (by decide) ?_
      exact z_widen (k := 600) (n := 3600) (show 146 ≤ 600 by omega) (show 804 ≤ 3600 by omega) (W.zret (v := 1) hx hb hr rfl (fun t ht hW => ⟨⟨1, (([(u 0, .inl (G.2 1, 64, .inr (.inl zE_6))), (u 1, .inl (G.2 0, 8, .inl (F 1))), (u 2, .inl (G.2 0, 3, .inl (F 2))), (u 3, .inl (G.2 0, 3, .inl (F 3))), (u 4, .inl (G.2 0, 40, .inl (F 4))), (u 5, .inl (G.2 0, 40, .inl (F 5))), (u 6, .inl (G.2 0, 9, .inl (F 6))), (u 7, .inl (G.2 0, 12, .inl (F 7))), (u 8, .inl (G.2 0, 12, .inl (F 8))), (u 9, .inl (G.2 0, 10, .inl (upd (F 9) 1 (nI (N 1 + 1)))))] : va_W) ++ zw_7), rfl, ⟨rfl, ((nFin N T pz (nI jt)).1), ((nFin N T pz (nI jt)).2), zE_6, (va_up F 9 (upd (F 9) 1 (nI (N 1 + 1)))), zw_7, rfl, ⟨A, mc, g, hC⟩, hRn, ((sLJ_fin hJ hh9.1 hkz_871).mono (by omega))⟩, ⟨by rw [ht]; exact hP, hD⟩⟩, hS.F ht⟩) hS.2.2 dL_chats_882 hlocks)
    · skip
      have hlf := zc_5
      refine lv_aload_n hx hb dL_chats_833 rfl (lv_at hl 0 rfl) ?_
      refine lv_iload hx hb dL_chats_834 (lv_at hl 8 rfl) ?_
      refine lv_iload hx hb dL_chats_836 (lv_at hl 9 rfl) ?_
      have hkz_838 : sK2 ((sIx pz 9) && (sIx (nI jt) (N 6))) ((decide (T 18 (nI jt).toNatClampNeg = pz)) && (decide (T 2 pz.toNatClampNeg = 0))) = 2 := (sK2_2' (sAnd_y (sIx_in.mpr hpz) (sIx_y hjt (by omega))) (sAnd_r (decide_eq_false hlf)))
      have hzb_838 : (8 + zmc (sK2 ((sIx pz 9) && (sIx (nI jt) (N 6))) ((decide (T 18 (nI jt).toNatClampNeg = pz)) && (decide (T 2 pz.toNatClampNeg = 0)))) (N 1) (N 1 + 1)) ≤ 8 ∧ (200 + zms (sK2 ((sIx pz 9) && (sIx (nI jt) (N 6))) ((decide (T 18 (nI jt).toNatClampNeg = pz)) && (decide (T 2 pz.toNatClampNeg = 0)))) (N 1) (N 1 + 1)) ≤ 200 := zmc_n8 (by rw [hkz_838]; decide)
      refine z_xR (G := G) (w := w) (c2 := 18) (s2 := 260) (vx_runSX (hh := [(0, 6, 9, 14), (0, 6, 14, 18)]) (As := [.ref (r 0), .int pz, .int (nI jt)]) (rest := []) ⟨hx, hb, hml, hown, hts⟩ (h_finish l hst G d r A mc g N T w K pz (nI jt) H.size hC hJ.1.1 (by omega) ) (vx_cwSW 3 hts gL_chats_L_finish rfl rfl rfl (by decide +kernel) ⟨Nat.le_of_ble_eq_true rfl, Nat.le_of_ble_eq_true rfl⟩) (z_hs hK (z_apR hP) (z_dR hD) hZ hLx hS hA) rfl rfl hl.1 rfl (lv_room (Nat.le_of_ble_eq_true rfl)) dL_chats_838 ⟨(show 10 + (8 + zmc (sK2 ((sIx pz 9) && (sIx (nI jt) (N 6))) ((decide (T 18 (nI jt).toNatClampNeg = pz)) && (decide (T 2 pz.toNatClampNeg = 0)))) (N 1) (N 1 + 1)) ≤ 600 by omega), (show 60 + (200 + zms (sK2 ((sIx pz 9) && (sIx (nI jt) (N 6))) ((decide (T 18 (nI jt).toNatClampNeg = pz)) && (decide (T 2 pz.toNatClampNeg = 0)))) (N 1) (N 1 + 1)) ≤ 3600 by omega)⟩) hP hD hS hA (show 10 + (8 + zmc (sK2 ((sIx pz 9) && (sIx (nI jt) (N 6))) ((decide (T 18 (nI jt).toNatClampNeg = pz)) && (decide (T 2 pz.toNatClampNeg = 0)))) (N 1) (N 1 + 1)) ≤ 18 by omega) (show 60 + (200 + zms (sK2 ((sIx pz 9) && (sIx (nI jt) (N 6))) ((decide (T 18 (nI jt).toNatClampNeg = pz)) && (decide (T 2 pz.toNatClampNeg = 0)))) (N 1) (N 1 + 1)) ≤ 260 by omega) (fun rz_9 zw_9 Hz Lz hq hP hD hS => ?_)
      obtain ⟨hr9, hw9⟩ := hq.2 (by rw [hkz_838]; decide)
      rw [hw9] at hP hD
      rw [hr9, show zCx [-7100, -7300] (sK2 ((sIx pz 9) && (sIx (nI jt) (N 6))) ((decide (T 18 (nI jt).toNatClampNeg = pz)) && (decide (T 2 pz.toNatClampNeg = 0)))) = (-7300) from by rw [hkz_838]; rfl]
      refine lv_sipush (v := (-7300)) hx hb dL_chats_841 (by decide) ?_
      refine lv_icmp_ne (tgt := 851) hx hb dL_chats_844 (by decide) (fun zc_10 => absurd zc_10 (by decide)) (fun _ => ?_)
      refine lv_iconst (v := 1) hx hb dL_chats_847 (by decide) ?_
      refine lv_goto (tgt := 852) hx hb dL_chats_848 (by decide) ?_
      exact z_widen (k := 600) (n := 3600) (show 18 ≤ 600 by omega) (show 260 ≤ 3600 by omega) (W.zret (v := 1) hx hb hr rfl (fun t ht hW => ⟨⟨1, (([(u 0, .inl (G.2 1, 64, .inr (.inl E))), (u 1, .inl (G.2 0, 8, .inl (F 1))), (u 2, .inl (G.2 0, 3, .inl (F 2))), (u 3, .inl (G.2 0, 3, .inl (F 3))), (u 4, .inl (G.2 0, 40, .inl (F 4))), (u 5, .inl (G.2 0, 40, .inl (F 5))), (u 6, .inl (G.2 0, 9, .inl (F 6))), (u 7, .inl (G.2 0, 12, .inl (F 7))), (u 8, .inl (G.2 0, 12, .inl (F 8))), (u 9, .inl (G.2 0, 10, .inl (F 9)))] : va_W) ++ w), rfl, ⟨rfl, N, T, E, F, w, rfl, ⟨A, mc, g, hC⟩, hR, (hJ.mono (by omega))⟩, ⟨by rw [ht]; exact hP, hD⟩⟩, hS.F ht⟩) hS.2.2 dL_chats_852 hlocks)

set_option maxHeartbeats 4000000 in
set_option maxRecDepth 100000 in
theorem vchats_714 {p : Program} {l : Launch} {e : Env} {s : State} {m : MethodId} {below : List Frame} {meth : Method} {c : Code} {G : zG} {d : Nat} {r u : Nat → Nat} {act x y : Int32} {Aw : Nat → Prop} (hst : l.stackTraces = false) (hx : p.tables.exec = Jvm.exec) (hb : c.code = cL_chats) (hr : meth.sig.returnType = some .boolean) (hml : c.maxLocals = 17) (hown : s.vm.findClass RL = some m.cls) (hts : ∀ w ∈ wsL_chats, w.before ([.ref (r 0), .int act, .int x, .int y, .ref (u 0), .ref (u 7), .ref (u 8), .ref (u 9)] : List Value).toArray s = true) (hlocks : meth.locks = false) (hK : va_K G.1 vwCl (zT G.2) s) (hZ : zCe Aw d s s.heap) (hLx : zLx s) (hA : ∀ q : Nat, s.heap.size ≤ q → Aw q) {A : Nat → Nat} {mc : Nat → Int32} {g : Nat → Nat → Int32} {N : Nat → Nat} {T : Nat → Nat → Int32} {w : va_W} {E : Nat → Int64} {F : Nat → Nat → Int32} {K : Nat} (hC : sCQ G d r A mc g N T w) (hR : sLR N T E F) (hJ : sLJ N T K) (hK5 : K ≤ 400) (hh9 : N 1 ≤ 90 ∧ N 0 ≤ 1900) {jp : Nat} (hjp : jp < 9) {H : Heap} {locs : List Loc} (hP : va_P G.1 vwCl (([(u 0, .inl (G.2 1, 64, .inr (.inl E))), (u 1, .inl (G.2 0, 8, .inl (F 1))), (u 2, .inl (G.2 0, 3, .inl (F 2))), (u 3, .inl (G.2 0, 3, .inl (F 3))), (u 4, .inl (G.2 0, 40, .inl (F 4))), (u 5, .inl (G.2 0, 40, .inl (F 5))), (u 6, .inl (G.2 0, 9, .inl (F 6))), (u 7, .inl (G.2 0, 12, .inl (F 7))), (u 8, .inl (G.2 0, 12, .inl (F 8))), (u 9, .inl (G.2 0, 10, .inl (F 9)))] : va_W) ++ w) H) (hD : va_D Aw (([(u 0, .inl (G.2 1, 64, .inr (.inl E))), (u 1, .inl (G.2 0, 8, .inl (F 1))), (u 2, .inl (G.2 0, 3, .inl (F 2))), (u 3, .inl (G.2 0, 3, .inl (F 3))), (u 4, .inl (G.2 0, 40, .inl (F 4))), (u 5, .inl (G.2 0, 40, .inl (F 5))), (u 6, .inl (G.2 0, 9, .inl (F 6))), (u 7, .inl (G.2 0, 12, .inl (F 7))), (u 8, .inl (G.2 0, 12, .inl (F 8))), (u 9, .inl (G.2 0, 10, .inl (F 9)))] : va_W) ++ w)) (hS : va_S Aw s.heap H locs) {ls : Array Slot} (hl : lv_has ls 17 [(0, .ref (r 0)), (1, .int act), (2, .int x), (3, .int y), (4, .ref (u 0)), (5, .ref (u 7)), (6, .ref (u 8)), (7, .ref (u 9)), (8, .int (nI jp))]) : W p l e (headSpec wsL_chats ({ frames := 9, cells := 600, slots := 3600, locals := 219 })).room s m ([.ref (r 0), .int act, .int x, .int y, .ref (u 0), .ref (u 7), .ref (u 8), .ref (u 9)] : List Value).toArray below meth c H locs 0 0 (MQ below (va_Qi (fun (r1 : Int32) (wz : va_W) => r1 = 1 ∧ ∃ (N2 : Nat → Nat) (T2 : Nat → Nat → Int32) (E2 : Nat → Int64) (F2 : Nat → Nat → Int32) (w2 : va_W), wz = LW G u E2 F2 ++ w2 ∧ sCO G d r N2 T2 w2 ∧ sLR N2 T2 E2 F2 ∧ sLJ N2 T2 (K + 2)) (zB G Aw) Aw) ([.ref (r 0), .int act, .int x, .int y, .ref (u 0), .ref (u 7), .ref (u 8), .ref (u 9)] : List Value).toArray s 600 3600 Aw) (F0 m 714 ls []) := by
  have hQ := hR.q hJ
  obtain ⟨hg0, hg1, hg2, hg3, hg4, hg5, hg6, hg7, hg8⟩ := hR.2.2.2.2.2.2.2.2.2
  obtain ⟨⟨hb1, hb0, hb3, hb4, hb5⟩, hlv, hlm, hLH⟩ := id hJ.2
  obtain ⟨⟨hi0, hi2, hi3, hi4, hi5, hi6, hi1⟩, hiB, hiE, hiT, hiA, hiA0, hiM, hiK, hiK0, hiX⟩ := id hJ.1.1
  have hLG := hJ.1.2
  have hS0z : va_S Aw s.heap s.heap [] := va_S.rf
  refine lv_iload_n hx hb dL_chats_714 rfl (lv_at hl 3 rfl) ?_
  refine lv_aload hx hb dL_chats_715 (lv_at hl 7 rfl) ?_
  refine lv_bipush (v := 7) hx hb dL_chats_717 (by decide) ?_
  refine va_iald hx hb hK (z_apL hP) 9 0 rfl rfl (vp_in_nI (n := 7) (by decide) (by decide)) dL_chats_719 ?_
  refine W.eq (g2 := F0 m 720 ls [.int (nI (N 6)), .int y]) (by rw [show (F 9) (7 : Int32).toNatClampNeg = nI (N 6) from hg7]) ?_
  refine lv_iconst (v := 1) hx hb dL_chats_720 (by decide) ?_
  refine lv_iadd hx hb dL_chats_721 ?_
  refine W.eq (g2 := F0 m 722 ls [.int (nI (N 6 + 1)), .int y]) (by first | (rw [nI_1]; done) | (rw [nI_1]; rfl)) ?_
  refine z_csi (va_Run.run (va_runS (As := [.int y, .int (nI (N 6 + 1))]) (rest := []) ⟨hx, hb, hml, hown, hts⟩ (c_L_low l G y (N 6 + 1) (by omega) (by omega)) (va_cwS 2 hts gL_chats_L_low rfl rfl rfl (by decide +kernel) ⟨Nat.le_of_ble_eq_true rfl, Nat.le_of_ble_eq_true rfl⟩) (z_ps hK z_none) rfl rfl hl.1 rfl (lv_room (Nat.le_of_ble_eq_true rfl)) dL_chats_722 ⟨(show 0 + 0 ≤ 600 by omega), (show 0 + 0 ≤ 3600 by omega)⟩)) (fun zr_1 hzr_1 => ?_)
  obtain ⟨jt, hjt, rfl⟩ := hzr_1
  refine lv_istore (lv' := [(9, .int (nI jt)), (0, .ref (r 0)), (1, .int act), (2, .int x), (3, .int y), (4, .ref (u 0)), (5, .ref (u 7)), (6, .ref (u 8)), (7, .ref (u 9)), (8, .int (nI jp))]) hx hb dL_chats_725 hl (by decide) rfl (fun ls hl => ?_)
  refine lv_iload hx hb dL_chats_727 (lv_at hl 0 rfl) ?_
  refine lv_aload hx hb dL_chats_729 (lv_at hl 8 rfl) ?_
  refine lv_bipush (v := 7) hx hb dL_chats_731 (by decide) ?_
  refine va_iald hx hb hK (z_apL hP) 9 0 rfl rfl (vp_in_nI (n := 7) (by decide) (by decide)) dL_chats_733 ?_
  refine W.eq (g2 := F0 m 734 ls [.int (nI (N 6)), .int (nI jt)]) (by rw [show (F 9) (7 : Int32).toNatClampNeg = nI (N 6) from hg7]) ?_
  refine lv_icmp_ne (tgt := 782) hx hb dL_chats_734 (by decide) (fun zc_2 => ?_) (fun zc_2 => ?_)
  · skip
    have hjn : ¬ jt = N 6 := fun z => zc_2 (by rw [z])
    have hjt2 : jt < N 6 := by omega
    refine lv_aload hx hb dL_chats_782 (lv_at hl 5 rfl) ?_
    refine lv_aload hx hb dL_chats_784 (lv_at hl 8 rfl) ?_
    refine lv_iload hx hb dL_chats_786 (lv_at hl 0 rfl) ?_
    refine z_csi (va_Run.run (va_runS (As := [.ref (u 0), .ref (u 9), .int (nI jt)]) (rest := []) ⟨hx, hb, hml, hown, hts⟩ (c_L_task l G u E F N T (nI jt) hQ (vp_in_nI (by omega) (by omega))) (va_cwS 3 hts gL_chats_L_task rfl rfl rfl (by decide +kernel) ⟨Nat.le_of_ble_eq_true rfl, Nat.le_of_ble_eq_true rfl⟩) (z_ps hK (z_apL hP)) rfl rfl hl.1 rfl (lv_room (Nat.le_of_ble_eq_true rfl)) dL_chats_788 ⟨(show 0 + 0 ≤ 600 by omega), (show 0 + 0 ≤ 3600 by omega)⟩)) (fun zr_3 hzr_3 => ?_)
    subst hzr_3
    refine lv_istore (lv' := [(10, .int (T 18 (nI jt).toNatClampNeg)), (9, .int (nI jt)), (0, .ref (r 0)), (1, .int act), (2, .int x), (3, .int y), (4, .ref (u 0)), (5, .ref (u 7)), (6, .ref (u 8)), (7, .ref (u 9)), (8, .int (nI jp))]) hx hb dL_chats_791 hl (by decide) rfl (fun ls hl => ?_)
    refine lv_iload hx hb dL_chats_793 (lv_at hl 0 rfl) ?_
    refine lv_if_lt (tgt := 810) hx hb dL_chats_795 (by decide) (fun zc_4 => ?_) (fun zc_4 => ?_)
    · skip
      have zd_4 := Int32.not_le.mpr zc_4
      skip
      refine lv_iload hx hb dL_chats_810 (lv_at hl 10 rfl) ?_
      refine lv_istore (lv' := [(8, .int (nI jp)), (10, .int (T 18 (nI jt).toNatClampNeg)), (9, .int (nI jt)), (0, .ref (r 0)), (1, .int act), (2, .int x), (3, .int y), (4, .ref (u 0)), (5, .ref (u 7)), (6, .ref (u 8)), (7, .ref (u 9))]) hx hb dL_chats_812 hl (by decide) rfl (fun ls hl => ?_)
      exact z_widen (show 0 ≤ 10 by omega) (show 0 ≤ 60 by omega) (vchats_814 hst hx hb hr hml hown hts hlocks hK hZ hLx hA hC hR hJ hK5 hh9 (vp_in_nI hjp (by omega)) hjt2 hP hD hS (lv_sub hl [3, 4, 5, 6, 7, 8, 9, 10, 0, 2, 1] rfl))
    · skip
      have zd_4 := Int32.not_lt.mp zc_4
      have hge9 := zc_4
      refine lv_iload_n hx hb dL_chats_798 rfl (lv_at hl 4 rfl) ?_
      refine lv_bipush (v := 96) hx hb dL_chats_799 (by decide) ?_
      refine lv_iand hx hb dL_chats_801 ?_
      refine lv_if_le (tgt := 810) hx hb dL_chats_802 (by decide) (fun zc_5 => ?_) (fun zc_5 => ?_)
      · skip
        have zd_5 := Int32.not_lt.mpr zc_5
        refine lv_iload hx hb dL_chats_810 (lv_at hl 10 rfl) ?_
        refine lv_istore (lv' := [(8, .int (nI jp)), (10, .int (T 18 (nI jt).toNatClampNeg)), (9, .int (nI jt)), (0, .ref (r 0)), (1, .int act), (2, .int x), (3, .int y), (4, .ref (u 0)), (5, .ref (u 7)), (6, .ref (u 8)), (7, .ref (u 9))]) hx hb dL_chats_812 hl (by decide) rfl (fun ls hl => ?_)
        exact z_widen (show 0 ≤ 10 by omega) (show 0 ≤ 60 by omega) (vchats_814 hst hx hb hr hml hown hts hlocks hK hZ hLx hA hC hR hJ hK5 hh9 (vp_in_nI hjp (by omega)) hjt2 hP hD hS (lv_sub hl [3, 4, 5, 6, 7, 8, 9, 10, 0, 2, 1] rfl))
      · skip
        have zd_5 := Int32.not_le.mp zc_5
        refine lv_iload hx hb dL_chats_805 (lv_at hl 0 rfl) ?_
        refine lv_goto (tgt := 812) hx hb dL_chats_807 (by decide) ?_
        refine lv_istore (lv' := [(8, .int (T 18 (nI jt).toNatClampNeg)), (10, .int (T 18 (nI jt).toNatClampNeg)), (9, .int (nI jt)), (0, .ref (r 0)), (1, .int act), (2, .int x), (3, .int y), (4, .ref (u 0)), (5, .ref (u 7)), (6, .ref (u 8)), (7, .ref (u 9))]) hx hb dL_chats_812 hl (by decide) rfl (fun ls hl => ?_)
        exact z_widen (show 0 ≤ 10 by omega) (show 0 ≤ 60 by omega) (vchats_814 hst hx hb hr hml hown hts hlocks hK hZ hLx hA hC hR hJ hK5 hh9 ((hiK _ (by rw [nI_clamp (by omega)]; exact hjt2)).resolve_left (fun z => hge9 (by rw [z]; decide))) hjt2 hP hD hS (lv_sub hl [3, 4, 5, 6, 7, 8, 9, 10, 0, 2, 1] rfl))
  · skip
    have hjn : jt = N 6 := (nI_eq (by omega) (by omega)).mp zc_2
    subst hjn
    refine lv_aload_n hx hb dL_chats_737 rfl (lv_at hl 1 rfl) ?_
    refine lv_iload hx hb dL_chats_738 (lv_at hl 9 rfl) ?_
    refine lv_iload hx hb dL_chats_740 (lv_at hl 0 rfl) ?_
    have hkz_742 : sK2 ((sIx (nI jp) 9) && (sIx (nI (N 6)) (N 6))) ((decide (T 18 (nI (N 6)).toNatClampNeg = (nI jp))) && (decide (T 2 (nI jp).toNatClampNeg = 0))) = 1 := (sK2_1' (sAnd_r (sIx_e (by omega))))
    have hzb_742 : (8 + zmc (sK2 ((sIx (nI jp) 9) && (sIx (nI (N 6)) (N 6))) ((decide (T 18 (nI (N 6)).toNatClampNeg = (nI jp))) && (decide (T 2 (nI jp).toNatClampNeg = 0)))) (N 1) (N 1 + 1)) ≤ 8 ∧ (200 + zms (sK2 ((sIx (nI jp) 9) && (sIx (nI (N 6)) (N 6))) ((decide (T 18 (nI (N 6)).toNatClampNeg = (nI jp))) && (decide (T 2 (nI jp).toNatClampNeg = 0)))) (N 1) (N 1 + 1)) ≤ 200 := zmc_n8 (by rw [hkz_742]; decide)
    refine z_xR (G := G) (w := w) (c2 := 8) (s2 := 200) (vx_runSX (hh := [(0, 6, 9, 14), (0, 6, 14, 18)]) (As := [.ref (r 0), .int (nI jp), .int (nI (N 6))]) (rest := []) ⟨hx, hb, hml, hown, hts⟩ (h_finish l hst G d r A mc g N T w K (nI jp) (nI (N 6)) H.size hC hJ.1.1 (by omega) ) (vx_cwSW 3 hts gL_chats_L_finish rfl rfl rfl (by decide +kernel) ⟨Nat.le_of_ble_eq_true rfl, Nat.le_of_ble_eq_true rfl⟩) (z_hs hK (z_apR hP) (z_dR hD) hZ hLx hS hA) rfl rfl hl.1 rfl (lv_room (Nat.le_of_ble_eq_true rfl)) dL_chats_742 ⟨(show 0 + (8 + zmc (sK2 ((sIx (nI jp) 9) && (sIx (nI (N 6)) (N 6))) ((decide (T 18 (nI (N 6)).toNatClampNeg = (nI jp))) && (decide (T 2 (nI jp).toNatClampNeg = 0)))) (N 1) (N 1 + 1)) ≤ 600 by omega), (show 0 + (200 + zms (sK2 ((sIx (nI jp) 9) && (sIx (nI (N 6)) (N 6))) ((decide (T 18 (nI (N 6)).toNatClampNeg = (nI jp))) && (decide (T 2 (nI jp).toNatClampNeg = 0)))) (N 1) (N 1 + 1)) ≤ 3600 by omega)⟩) hP hD hS hA (show 0 + (8 + zmc (sK2 ((sIx (nI jp) 9) && (sIx (nI (N 6)) (N 6))) ((decide (T 18 (nI (N 6)).toNatClampNeg = (nI jp))) && (decide (T 2 (nI jp).toNatClampNeg = 0)))) (N 1) (N 1 + 1)) ≤ 8 by omega) (show 0 + (200 + zms (sK2 ((sIx (nI jp) 9) && (sIx (nI (N 6)) (N 6))) ((decide (T 18 (nI (N 6)).toNatClampNeg = (nI jp))) && (decide (T 2 (nI jp).toNatClampNeg = 0)))) (N 1) (N 1 + 1)) ≤ 200 by omega) (fun rz_6 zw_6 Hz Lz hq hP hD hS => ?_)
    obtain ⟨hr9, hw9⟩ := hq.2 (by rw [hkz_742]; decide)
    rw [hw9] at hP hD
    rw [hr9, show zCx [-7100, -7300] (sK2 ((sIx (nI jp) 9) && (sIx (nI (N 6)) (N 6))) ((decide (T 18 (nI (N 6)).toNatClampNeg = (nI jp))) && (decide (T 2 (nI jp).toNatClampNeg = 0)))) = (-7100) from by rw [hkz_742]; rfl]
    refine lv_sipush (v := (-7100)) hx hb dL_chats_745 (by decide) ?_
    refine lv_icmp_ne (tgt := 780) hx hb dL_chats_748 (by decide) (fun zc_7 => absurd zc_7 (by decide)) (fun _ => ?_)
    refine lv_aload_n hx hb dL_chats_751 rfl (lv_at hl 1 rfl) ?_
    refine lv_iload hx hb dL_chats_752 (lv_at hl 0 rfl) ?_
    have hkz_754 : sK1 (sIx (nI (N 6)) (N 6)) = 1 := (sK1_1' (sIx_e (by omega)))
    refine z_xR (G := G) (w := w) (c2 := 10) (s2 := 212) (vx_runSX (hh := [(0, 6, 9, 14)]) (As := [.ref (r 0), .int (nI (N 6))]) (rest := []) ⟨hx, hb, hml, hown, hts⟩ (h_taskOf l hst G d r A mc g N T w K (nI (N 6)) Hz.size hC hJ.1.1 (by omega) ) (vx_cwSW 2 hts gL_chats_L_taskOf rfl rfl rfl (by decide +kernel) ⟨Nat.le_of_ble_eq_true rfl, Nat.le_of_ble_eq_true rfl⟩) (z_hs hK (z_apR hP) (z_dR hD) hZ hLx hS hA) rfl rfl hl.1 rfl (lv_room (Nat.le_of_ble_eq_true rfl)) dL_chats_754 ⟨(show 8 + 2 ≤ 600 by omega), (show 200 + 12 ≤ 3600 by omega)⟩) hP hD hS hA (show 8 + 2 ≤ 10 by omega) (show 200 + 12 ≤ 212 by omega) (fun rz_8 zw_8 Hz Lz hq hP hD hS => ?_)
    obtain ⟨hr9, hw9⟩ := hq.2 (by rw [hkz_754]; decide)
    rw [hw9] at hP hD
    rw [hr9, show zCx [-7100] (sK1 (sIx (nI (N 6)) (N 6))) = (-7100) from by rw [hkz_754]; rfl]
    refine lv_sipush (v := (-7100)) hx hb dL_chats_757 (by decide) ?_
    refine lv_icmp_ne (tgt := 780) hx hb dL_chats_760 (by decide) (fun zc_9 => absurd zc_9 (by decide)) (fun _ => ?_)
    refine lv_aload_n hx hb dL_chats_763 rfl (lv_at hl 1 rfl) ?_
    refine lv_bipush (v := 9) hx hb dL_chats_764 (by decide) ?_
    refine lv_iconst (v := 0) hx hb dL_chats_766 (by decide) ?_
    have hkz_767 : sK2 ((sIx (9 : Int32) 9) && (sIx (0 : Int32) (N 6))) ((decide (T 18 (0 : Int32).toNatClampNeg = (9 : Int32))) && (decide (T 2 (9 : Int32).toNatClampNeg = 0))) = 1 := (sK2_1' (sAnd_l (show sIx (9 : Int32) 9 = false from by decide)))
    have hzb_767 : (8 + zmc (sK2 ((sIx (9 : Int32) 9) && (sIx (0 : Int32) (N 6))) ((decide (T 18 (0 : Int32).toNatClampNeg = (9 : Int32))) && (decide (T 2 (9 : Int32).toNatClampNeg = 0)))) (N 1) (N 1 + 1)) ≤ 8 ∧ (200 + zms (sK2 ((sIx (9 : Int32) 9) && (sIx (0 : Int32) (N 6))) ((decide (T 18 (0 : Int32).toNatClampNeg = (9 : Int32))) && (decide (T 2 (9 : Int32).toNatClampNeg = 0)))) (N 1) (N 1 + 1)) ≤ 200 := zmc_n8 (by rw [hkz_767]; decide)
    refine z_xR (G := G) (w := w) (c2 := 18) (s2 := 412) (vx_runSX (hh := [(0, 6, 9, 14), (0, 6, 14, 18)]) (As := [.ref (r 0), .int 9, .int 0]) (rest := []) ⟨hx, hb, hml, hown, hts⟩ (h_finish l hst G d r A mc g N T w K (9 : Int32) (0 : Int32) Hz.size hC hJ.1.1 (by omega) ) (vx_cwSW 3 hts gL_chats_L_finish rfl rfl rfl (by decide +kernel) ⟨Nat.le_of_ble_eq_true rfl, Nat.le_of_ble_eq_true rfl⟩) (z_hs hK (z_apR hP) (z_dR hD) hZ hLx hS hA) rfl rfl hl.1 rfl (lv_room (Nat.le_of_ble_eq_true rfl)) dL_chats_767 ⟨(show 10 + (8 + zmc (sK2 ((sIx (9 : Int32) 9) && (sIx (0 : Int32) (N 6))) ((decide (T 18 (0 : Int32).toNatClampNeg = (9 : Int32))) && (decide (T 2 (9 : Int32).toNatClampNeg = 0)))) (N 1) (N 1 + 1)) ≤ 600 by omega), (show 212 + (200 + zms (sK2 ((sIx (9 : Int32) 9) && (sIx (0 : Int32) (N 6))) ((decide (T 18 (0 : Int32).toNatClampNeg = (9 : Int32))) && (decide (T 2 (9 : Int32).toNatClampNeg = 0)))) (N 1) (N 1 + 1)) ≤ 3600 by omega)⟩) hP hD hS hA (show 10 + (8 + zmc (sK2 ((sIx (9 : Int32) 9) && (sIx (0 : Int32) (N 6))) ((decide (T 18 (0 : Int32).toNatClampNeg = (9 : Int32))) && (decide (T 2 (9 : Int32).toNatClampNeg = 0)))) (N 1) (N 1 + 1)) ≤ 18 by omega) (show 212 + (200 + zms (sK2 ((sIx (9 : Int32) 9) && (sIx (0 : Int32) (N 6))) ((decide (T 18 (0 : Int32).toNatClampNeg = (9 : Int32))) && (decide (T 2 (9 : Int32).toNatClampNeg = 0)))) (N 1) (N 1 + 1)) ≤ 412 by omega) (fun rz_10 zw_10 Hz Lz hq hP hD hS => ?_)
    obtain ⟨hr9, hw9⟩ := hq.2 (by rw [hkz_767]; decide)
    rw [hw9] at hP hD
    rw [hr9, show zCx [-7100, -7300] (sK2 ((sIx (9 : Int32) 9) && (sIx (0 : Int32) (N 6))) ((decide (T 18 (0 : Int32).toNatClampNeg = (9 : Int32))) && (decide (T 2 (9 : Int32).toNatClampNeg = 0)))) = (-7100) from by rw [hkz_767]; rfl]
    refine lv_sipush (v := (-7100)) hx hb dL_chats_770 (by decide) ?_
    refine lv_icmp_ne (tgt := 780) hx hb dL_chats_773 (by decide) (fun zc_11 => absurd zc_11 (by decide)) (fun _ => ?_)
    refine lv_iconst (v := 1) hx hb dL_chats_776 (by decide) ?_
    refine lv_goto (tgt := 781) hx hb dL_chats_777 (by decide) ?_
    exact z_widen (k := 600) (n := 3600) (show 18 ≤ 600 by omega) (show 412 ≤ 3600 by omega) (W.zret (v := 1) hx hb hr rfl (fun t ht hW => ⟨⟨1, (([(u 0, .inl (G.2 1, 64, .inr (.inl E))), (u 1, .inl (G.2 0, 8, .inl (F 1))), (u 2, .inl (G.2 0, 3, .inl (F 2))), (u 3, .inl (G.2 0, 3, .inl (F 3))), (u 4, .inl (G.2 0, 40, .inl (F 4))), (u 5, .inl (G.2 0, 40, .inl (F 5))), (u 6, .inl (G.2 0, 9, .inl (F 6))), (u 7, .inl (G.2 0, 12, .inl (F 7))), (u 8, .inl (G.2 0, 12, .inl (F 8))), (u 9, .inl (G.2 0, 10, .inl (F 9)))] : va_W) ++ w), rfl, ⟨rfl, N, T, E, F, w, rfl, ⟨A, mc, g, hC⟩, hR, (hJ.mono (by omega))⟩, ⟨by rw [ht]; exact hP, hD⟩⟩, hS.F ht⟩) hS.2.2 dL_chats_781 hlocks)

set_option maxHeartbeats 4000000 in
set_option maxRecDepth 100000 in
theorem vchats_0 {p : Program} {l : Launch} {e : Env} {s : State} {m : MethodId} {below : List Frame} {meth : Method} {c : Code} {G : zG} {d : Nat} {r u : Nat → Nat} {act x y : Int32} {Aw : Nat → Prop} (hst : l.stackTraces = false) (hx : p.tables.exec = Jvm.exec) (hb : c.code = cL_chats) (hr : meth.sig.returnType = some .boolean) (hml : c.maxLocals = 17) (hown : s.vm.findClass RL = some m.cls) (hts : ∀ w ∈ wsL_chats, w.before ([.ref (r 0), .int act, .int x, .int y, .ref (u 0), .ref (u 7), .ref (u 8), .ref (u 9)] : List Value).toArray s = true) (hlocks : meth.locks = false) (hK : va_K G.1 vwCl (zT G.2) s) (hZ : zCe Aw d s s.heap) (hLx : zLx s) (hA : ∀ q : Nat, s.heap.size ≤ q → Aw q) {A : Nat → Nat} {mc : Nat → Int32} {g : Nat → Nat → Int32} {N : Nat → Nat} {T : Nat → Nat → Int32} {w : va_W} {E : Nat → Int64} {F : Nat → Nat → Int32} {K : Nat} (hC : sCQ G d r A mc g N T w) (hR : sLR N T E F) (hJ : sLJ N T K) (hK5 : K ≤ 400) (hh9 : N 1 ≤ 90 ∧ N 0 ≤ 1900)   {H : Heap} {locs : List Loc} (hP : va_P G.1 vwCl (([(u 0, .inl (G.2 1, 64, .inr (.inl E))), (u 1, .inl (G.2 0, 8, .inl (F 1))), (u 2, .inl (G.2 0, 3, .inl (F 2))), (u 3, .inl (G.2 0, 3, .inl (F 3))), (u 4, .inl (G.2 0, 40, .inl (F 4))), (u 5, .inl (G.2 0, 40, .inl (F 5))), (u 6, .inl (G.2 0, 9, .inl (F 6))), (u 7, .inl (G.2 0, 12, .inl (F 7))), (u 8, .inl (G.2 0, 12, .inl (F 8))), (u 9, .inl (G.2 0, 10, .inl (F 9)))] : va_W) ++ w) H) (hD : va_D Aw (([(u 0, .inl (G.2 1, 64, .inr (.inl E))), (u 1, .inl (G.2 0, 8, .inl (F 1))), (u 2, .inl (G.2 0, 3, .inl (F 2))), (u 3, .inl (G.2 0, 3, .inl (F 3))), (u 4, .inl (G.2 0, 40, .inl (F 4))), (u 5, .inl (G.2 0, 40, .inl (F 5))), (u 6, .inl (G.2 0, 9, .inl (F 6))), (u 7, .inl (G.2 0, 12, .inl (F 7))), (u 8, .inl (G.2 0, 12, .inl (F 8))), (u 9, .inl (G.2 0, 10, .inl (F 9)))] : va_W) ++ w)) (hS : va_S Aw s.heap H locs) {ls : Array Slot} (hl : lv_has ls 17 [(0, .ref (r 0)), (1, .int act), (2, .int x), (3, .int y), (4, .ref (u 0)), (5, .ref (u 7)), (6, .ref (u 8)), (7, .ref (u 9))]) : W p l e (headSpec wsL_chats ({ frames := 9, cells := 600, slots := 3600, locals := 219 })).room s m ([.ref (r 0), .int act, .int x, .int y, .ref (u 0), .ref (u 7), .ref (u 8), .ref (u 9)] : List Value).toArray below meth c H locs 0 0 (MQ below (va_Qi (fun (r1 : Int32) (wz : va_W) => r1 = 1 ∧ ∃ (N2 : Nat → Nat) (T2 : Nat → Nat → Int32) (E2 : Nat → Int64) (F2 : Nat → Nat → Int32) (w2 : va_W), wz = LW G u E2 F2 ++ w2 ∧ sCO G d r N2 T2 w2 ∧ sLR N2 T2 E2 F2 ∧ sLJ N2 T2 (K + 2)) (zB G Aw) Aw) ([.ref (r 0), .int act, .int x, .int y, .ref (u 0), .ref (u 7), .ref (u 8), .ref (u 9)] : List Value).toArray s 600 3600 Aw) (F0 m 0 ls []) := by
  have hQ := hR.q hJ
  obtain ⟨hg0, hg1, hg2, hg3, hg4, hg5, hg6, hg7, hg8⟩ := hR.2.2.2.2.2.2.2.2.2
  obtain ⟨⟨hb1, hb0, hb3, hb4, hb5⟩, hlv, hlm, hLH⟩ := id hJ.2
  obtain ⟨⟨hi0, hi2, hi3, hi4, hi5, hi6, hi1⟩, hiB, hiE, hiT, hiA, hiA0, hiM, hiK, hiK0, hiX⟩ := id hJ.1.1
  have hLG := hJ.1.2
  have hS0z : va_S Aw s.heap s.heap [] := va_S.rf
  refine lv_iload_n hx hb dL_chats_0 rfl (lv_at hl 2 rfl) ?_
  refine lv_bipush (v := 9) hx hb dL_chats_1 (by decide) ?_
  refine z_csi (va_Run.run (va_runS (As := [.int x, .int 9]) (rest := []) ⟨hx, hb, hml, hown, hts⟩ (c_L_low l G x 9 (by omega) (by omega)) (va_cwS 2 hts gL_chats_L_low rfl rfl rfl (by decide +kernel) ⟨Nat.le_of_ble_eq_true rfl, Nat.le_of_ble_eq_true rfl⟩) (z_ps hK z_none) rfl rfl hl.1 rfl (lv_room (Nat.le_of_ble_eq_true rfl)) dL_chats_3 ⟨(show 0 + 0 ≤ 600 by omega), (show 0 + 0 ≤ 3600 by omega)⟩)) (fun zr_1 hzr_1 => ?_)
  obtain ⟨jp, hjp, rfl⟩ := hzr_1
  refine lv_istore (lv' := [(8, .int (nI jp)), (0, .ref (r 0)), (1, .int act), (2, .int x), (3, .int y), (4, .ref (u 0)), (5, .ref (u 7)), (6, .ref (u 8)), (7, .ref (u 9))]) hx hb dL_chats_6 hl (by decide) rfl (fun ls hl => ?_)
  refine lv_iload_n hx hb dL_chats_8 rfl (lv_at hl 2 rfl) ?_
  refine lv_iconst (v := 5) hx hb dL_chats_9 (by decide) ?_
  refine lv_icmp_ge (tgt := 332) hx hb dL_chats_10 (by decide) (fun zc_2 => ?_) (fun zc_2 => ?_)
  · skip
    have zd_2 := Int32.not_lt.mpr zc_2
    refine lv_iload_n hx hb dL_chats_332 rfl (lv_at hl 2 rfl) ?_
    refine lv_bipush (v := 8) hx hb dL_chats_333 (by decide) ?_
    refine lv_icmp_ge (tgt := 714) hx hb dL_chats_335 (by decide) (fun zc_3 => ?_) (fun zc_3 => ?_)
    · skip
      have zd_3 := Int32.not_lt.mpr zc_3
      exact z_widen (show 0 ≤ 0 by omega) (show 0 ≤ 0 by omega) (vchats_714 hst hx hb hr hml hown hts hlocks hK hZ hLx hA hC hR hJ hK5 hh9 hjp hP hD hS (lv_sub hl [1, 2, 3, 4, 5, 6, 7, 8, 0] rfl))
    · skip
      have zd_3 := Int32.not_le.mp zc_3
      exact z_widen (show 0 ≤ 0 by omega) (show 0 ≤ 0 by omega) (vchats_338 hst hx hb hr hml hown hts hlocks hK hZ hLx hA hC hR hJ hK5 hh9 hjp hP hD hS (lv_sub hl [1, 2, 3, 4, 5, 6, 7, 8, 0] rfl))
  · skip
    have zd_2 := Int32.not_le.mp zc_2
    exact z_widen (show 0 ≤ 0 by omega) (show 0 ≤ 0 by omega) (vchats_13 hst hx hb hr hml hown hts hlocks hK hZ hLx hA hC hR hJ hK5 hh9 hjp hP hD hS (lv_sub hl [1, 2, 3, 4, 5, 6, 7, 8, 0] rfl))
set_option maxHeartbeats 4000000 in
set_option maxRecDepth 100000 in
theorem c_L_chats (l : Launch) (hst : l.stackTraces = false) (G : zG) (d : Nat) (r u : Nat → Nat) (act x y : Int32) (A : Nat → Nat) (mc : Nat → Int32) (g : Nat → Nat → Int32) (N : Nat → Nat) (T : Nat → Nat → Int32) (w : va_W) (E : Nat → Int64) (F : Nat → Nat → Int32) (K sz : Nat) (hC : sCQ G d r A mc g N T w) (hR : sLR N T E F) (hJ : sLJ N T K) (hK5 : K ≤ 400) (hh9 : N 1 ≤ 90 ∧ N 0 ≤ 1900) : Met l yL_chats wsL_chats ({ frames := 9, cells := 600, slots := 3600, locals := 219 }) (va_Pc [.ref (r 0), .int act, .int x, .int y, .ref (u 0), .ref (u 7), .ref (u 8), .ref (u 9)] (zHu G d (LW G u E F ++ w) sz)) (va_Qi (fun (r1 : Int32) (wz : va_W) => r1 = 1 ∧ ∃ (N2 : Nat → Nat) (T2 : Nat → Nat → Int32) (E2 : Nat → Int64) (F2 : Nat → Nat → Int32) (w2 : va_W), wz = LW G u E2 F2 ++ w2 ∧ sCO G d r N2 T2 w2 ∧ sLR N2 T2 E2 F2 ∧ sLJ N2 T2 (K + 2)) (zB G (va_A (LW G u E F ++ w) sz)) (va_A (LW G u E F ++ w) sz)) 600 3600 (va_A (LW G u E F ++ w) sz) := by
  refine Met.ofW (cc := cL_chats) (maxL := 17) (ret := (some .boolean)) (by decide) rfl ?_
  intro p e s m args below meth c s₁ B hml hv
  obtain ⟨rfl, ⟨hsz, hP, hK, hD0, hZ⟩, hLx⟩ := hv
  have hx := B.exec
  have hb := B.bytes
  have hr := B.returns
  have hts := atoms_spec (ws := wsL_chats) B.pre
  have hown : s.vm.findClass RL = some m.cls := findClass_of_methodNamed B.named
  have hlocks := B.notSynchronized
  subst hsz
  have hD := hD0.self (sz := s.heap.size)
  generalize hAe : va_A (LW G u E F ++ w) s.heap.size = Aw at hD hZ ⊢
  have hA : ∀ q : Nat, s.heap.size ≤ q → Aw q := fun q h => by rw [← hAe]; exact Or.inr h
  have hS : va_S Aw s.heap s.heap [] := va_S.rf
  have hl := lv_entry ([.ref (r 0), .int act, .int x, .int y, .ref (u 0), .ref (u 7), .ref (u 8), .ref (u 9)]) (n := 17) (Nat.le_of_ble_eq_true rfl)
  rw [lg_entry_eq]
  generalize (lg_sl ([.ref (r 0), .int act, .int x, .int y, .ref (u 0), .ref (u 7), .ref (u 8), .ref (u 9)]) ++ List.replicate (17 - (lg_sl ([.ref (r 0), .int act, .int x, .int y, .ref (u 0), .ref (u 7), .ref (u 8), .ref (u 9)])).length) Slot.unset).toArray = ls at hl ⊢
  exact vchats_0 hst hx hb hr hml hown hts hlocks hK hZ hLx hA hC hR hJ hK5 hh9 hP hD hS hl
