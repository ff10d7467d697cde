/-! rows for the law's large methods: its own arrays first, the class's world behind them -/
section ZBR
variable {p : Program} {l : Launch} {e : Env} {R : Room} {s : State} {m : MethodId} {args : Array Value} {below : List Frame} {meth : Method} {c : Code} {H : Heap} {locs : List Loc} {cells slots : Nat} {Q : State → Prop}
variable {pc : Nat} {ls : Array Slot} {rest st0 : List Value} {a : Array Value} {A0 : Nat → Prop} {H0 : Heap} {mc ms : Nat}
theorem z_xR {G : zG} {w wr : va_W} {post : Int32 → va_W → Prop} {c2 s2 : Nat} (hr : vx_Run p l e R s m args below meth c H locs cells slots mc ms (F0 m pc ls st0) rest (va_Qi post (zB G (va_A w H.size)) (va_A w H.size) a) (zXk [] 0) (va_A w H.size)) (hP : va_P G.1 vwCl (wr ++ w) H) (hD : va_D A0 (wr ++ w)) (hS : va_S A0 H0 H locs) (hA : ∀ q, H0.size ≤ q → A0 q) (hc : cells + mc ≤ c2) (hs : slots + ms ≤ s2)
    (kk : ∀ (r : Int32) (w1 : va_W) (H : Heap) (locs : List Loc), post r w1 → va_P G.1 vwCl (wr ++ w1) H → va_D A0 (wr ++ w1) → va_S A0 H0 H locs → W p l e R s m args below meth c H locs c2 s2 Q (F0 m (pc + 3) ls (.int r :: rest))) : W p l e R s m args below meth c H locs cells slots Q (F0 m pc ls st0) :=
  z_xi hr (z_psw hP) (z_dsw hD) hS hA (fun _ _ _ _ _ _ _ hE => absurd hE (by simp)) (fun r w1 H locs hp hP hD hS => z_widen hc hs (kk r w1 H locs hp (z_psw hP) (z_dsw hD) hS))
theorem z_wR {G : zG} {w wr : va_W} {post : Int32 → va_W → Prop} {c2 s2 : Nat} (hr : va_Run p l e R s m args below meth c H locs cells slots mc ms (F0 m pc ls st0) rest (va_Qi post (zB G (va_A w H.size)) (va_A w H.size) a) (va_A w H.size)) (hP : va_P G.1 vwCl (wr ++ w) H) (hD : va_D A0 (wr ++ w)) (hS : va_S A0 H0 H locs) (hA : ∀ q, H0.size ≤ q → A0 q) (hc : cells + mc ≤ c2) (hs : slots + ms ≤ s2)
    (kk : ∀ (r : Int32) (w1 : va_W) (H : Heap) (locs : List Loc), post r w1 → va_P G.1 vwCl (wr ++ w1) H → va_D A0 (wr ++ w1) → va_S A0 H0 H locs → W p l e R s m args below meth c H locs c2 s2 Q (F0 m (pc + 3) ls (.int r :: rest))) : W p l e R s m args below meth c H locs cells slots Q (F0 m pc ls st0) :=
  z_li hr (z_psw hP) (z_dsw hD) hS hA (fun r w1 H locs hp hP hD hS => z_widen hc hs (kk r w1 H locs hp (z_psw hP) (z_dsw hD) hS))
end ZBR
theorem zmc_b {k : Int32} {a b : Nat} (h : b ≤ 128) : zmc k a b ≤ 128 ∧ zms k a b ≤ 544 := by
  have h1 := zpc_top b
  have h2 := zps_top b
  have h3 := zcap_top b
  unfold zmc zms
  constructor <;> split <;> omega
theorem sIx_y {i n : Nat} (h : i < n) (hn : n < 2 ^ 31) : sIx (nI i) n = true := sIx_in.mpr (vp_in_nI h hn)
theorem sIx_e {n : Nat} (hn : n < 2 ^ 31) : sIx (nI n) n = false := by
  rw [sIx, decide_eq_false_iff_not, nI_toInt hn]
  omega
theorem sAnd_y {a b : Bool} (h1 : a = true) (h2 : b = true) : (a && b) = true := by rw [h1, h2]; rfl
theorem sAnd_l {a b : Bool} (h1 : a = false) : (a && b) = false := by rw [h1]; rfl
theorem sAnd_r {a b : Bool} (h1 : b = false) : (a && b) = false := by rw [h1, Bool.and_false]
theorem sLJ.al {N : Nat → Nat} {T : Nat → Nat → Int32} {K : Nat} (h : sLJ N T K) {a : Nat} (ha : a < N 3) : sAl T a := by
  obtain ⟨⟨⟨-, hB, -, -, hA, -⟩, -⟩, -, -, hm, -⟩ := h
  obtain ⟨a1, a2, a3⟩ := hA a ha
  exact ⟨a1, (hB a).2.2.2.1, a2, (hB a).2.2.2.2, hm a ha, a3⟩
/-- a sign of a text in the law's letters is no number below 0 -/
theorem sSgn_nn {D : Nat → Nat} {t : Nat → Int32} {n : Nat} (hX : sTx D t n) (hG : sG t n = true) : ∀ {k : Nat}, k ≤ n → ∀ j, j < sLen t k → ¬ sSgn t k j < 0
  | 0, _, j, hj => absurd hj (Nat.not_lt_zero j)
  | k + 1, hk, j, hj => by
    have e := hX.2 k (by omega)
    have hn : ¬ zLt (D k) < 0 := by
      obtain ⟨x, hx, ex⟩ := zLt_16 (hX.1 k)
      rw [ex]
      exact zNn (by omega)
    rw [sLen] at hj
    rw [sSgn]
    split
    · rename_i c
      rw [if_pos c] at hj
      exact sSgn_nn hX hG (by omega) j hj
    · rename_i c
      rw [if_neg c] at hj
      by_cases d : j = sLen t k
      · rw [d, upd_at]
        split
        · rename_i hw
          have h6 := sG_at hG (show k < n by omega)
          rw [hw, e, zLt_lo (hX.1 k)] at h6
          have h6 := of_decide_eq_true h6
          cases k with
          | zero => exact absurd (show false = true from hw) (by decide)
          | succ q =>
            have e2 := hX.2 q (by omega)
            rw [sW, e2, zLt_hi (hX.1 q)] at hw
            have h5 := of_decide_eq_true hw
            rw [Nat.add_sub_cancel, e, e2, h5, h6]
            decide
        · rw [e]; exact hn
      · rw [upd_no d]
        exact sSgn_nn hX hG (by omega) j (by omega)
theorem sGood_G {t : Nat → Int32} {n : Nat} (h : sGood t n = true) : sG t n = true := by
  cases c : sG t n with
  | true => rfl
  | false => rw [sGood, c] at h; exact absurd h (by simp)
theorem sSx_lt {D : Nat → Nat} {t : Nat → Int32} {n p : Nat} (hX : sTx D t n) (hG : sGood t n = true) : sSx t n p < 0 ↔ ¬ p < sLen t n := by
  rw [sSx]
  by_cases c : p < sLen t n
  · rw [if_pos c]; exact ⟨fun h => absurd h (sSgn_nn hX (sGood_G hG) (Nat.le_refl n) p c), fun h => absurd c h⟩
  · rw [if_neg c]; exact ⟨fun _ => c, fun _ => by decide⟩
theorem rSignAt_o {N : Nat → Nat} {T : Nat → Nat → Int32} {j p : Nat} {b : Bool} (hj : j < 2 ^ 31) (h : rSigns N T j ≤ p) (hp : p < 2 ^ 31) : rSignAt N T (nI j) (nI p) b = -1 := by
  rw [rSignAt, nI_clamp hj, if_pos (nI_le h hp)]
theorem rSignAt_i {N : Nat → Nat} {T : Nat → Nat → Int32} {j p : Nat} (hj : j < 2 ^ 31) (h : p < rSigns N T j) (hp : rSigns N T j < 2 ^ 31) : rSignAt N T (nI j) (nI p) false = sSx (T (20 + j)) (N (20 + j)) p := by
  rw [rSignAt, nI_clamp hj, nI_clamp (by omega), if_neg (nI_ge h hp), if_neg (by decide), sSx, if_pos (show p < sLen (T (20 + j)) (N (20 + j)) from h)]
theorem rSignAt_b {N : Nat → Nat} {T : Nat → Nat → Int32} {j p : Nat} (hj : j < 2 ^ 31) (h : p < rSigns N T j) (hp : rSigns N T j < 2 ^ 31) : rSignAt N T (nI j) (nI (rSigns N T j - 1 - p)) true = sSx (T (20 + j)) (N (20 + j)) p := by
  rw [rSignAt, nI_clamp hj, nI_clamp (by omega), if_neg (nI_ge (by omega) hp), if_pos rfl, sSx, if_pos (show p < sLen (T (20 + j)) (N (20 + j)) from h), show rSigns N T j - 1 - (rSigns N T j - 1 - p) = p by omega]
theorem rValveOf_y {T : Nat → Nat → Int32} {t : Nat} (ht : t < 2 ^ 31) (h : T 10 t = 0) : rValveOf T (nI t) = T 8 t := by rw [rValveOf, nI_clamp ht, if_pos h]
theorem rValveOf_n {T : Nat → Nat → Int32} {t : Nat} (ht : t < 2 ^ 31) (h : ¬ T 10 t = 0) : rValveOf T (nI t) = -1 := by rw [rValveOf, nI_clamp ht, if_neg h]
theorem sSm.of {N : Nat → Nat} {T : Nat → Nat → Int32} {K : Nat} (h : sInv N T K 0) : sSm N := by
  obtain ⟨⟨h0, h2, h3, h4, h5, h6, h1⟩, -⟩ := h
  exact ⟨h2, h3, h4, h5, by omega, h0⟩
theorem zmc_n8 {k : Int32} {a b : Nat} (h : ¬ k = 0) : (8 + zmc k a b) ≤ 8 ∧ (200 + zms k a b) ≤ 200 := by
  rw [zmc, zms, if_neg h, if_neg h]
  exact ⟨Nat.le_refl _, Nat.le_refl _⟩
theorem zmc_b8 {k : Int32} {a b : Nat} (h : b ≤ 128) : (8 + zmc k a b) ≤ 136 ∧ (200 + zms k a b) ≤ 744 := by
  have := zmc_b (k := k) (a := a) h
  omega
