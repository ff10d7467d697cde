/-! what the law's look makes of an alarm -/
def sPb (T : Nat → Nat → Int32) (a : Nat) : Int32 := T 11 a + (if T 13 a = 0 then 0 else 4) + 8 * T 14 a + (if T 15 a = 0 then 0 else 64) + 128 * T 12 a
theorem sPa_b {T : Nat → Nat → Int32} {a : Nat} : sPa T a = sPb T a + 262144 * T 16 a := rfl
theorem z01n {x : Int32} (h : x = 0 ∨ x = 1) : ∃ b : Nat, b ≤ 1 ∧ x = nI b := h.elim (fun h => ⟨0, by omega, h⟩) (fun h => ⟨1, by omega, h⟩)
theorem zIfn {b k : Nat} (h : b ≤ 1) : (if nI b = 0 then (0 : Int32) else nI k) = nI (k * b) := by
  rcases (show b = 0 ∨ b = 1 by omega) with rfl | rfl
  · rw [if_pos (show nI 0 = (0 : Int32) from rfl)]; rfl
  · rw [if_neg (by decide), Nat.mul_one]
theorem z13 {x : Int32} : (if x = 0 then (0 : Int32) else 4) ≤ 0 ↔ x = 0 := by
  by_cases c : x = 0
  · rw [if_pos c]; exact ⟨fun _ => c, fun _ => by decide⟩
  · rw [if_neg c]; exact ⟨fun h => absurd h (by decide), fun h => absurd h c⟩
/-- what an alarm is, in numbers -/
def sAl (T : Nat → Nat → Int32) (a : Nat) : Prop := vp_in (T 11 a) 3 ∧ (T 13 a = 0 ∨ T 13 a = 1) ∧ vp_in (T 14 a) 8 ∧ (T 15 a = 0 ∨ T 15 a = 1) ∧ (∃ x : Nat, x ≤ 1000 ∧ T 12 a = nI x) ∧ (T 16 a = 0 ∨ T 16 a = 1 ∨ T 16 a = 2)
theorem sPb_n {T : Nat → Nat → Int32} {a v b y o m : Nat} (e11 : T 11 a = nI v) (hb : b ≤ 1) (e13 : T 13 a = nI b) (e14 : T 14 a = nI y) (ho : o ≤ 1) (e15 : T 15 a = nI o) (e12 : T 12 a = nI m) : sPb T a = nI (v + 4 * b + 8 * y + 64 * o + 128 * m) := by
  rw [sPb, e11, e13, e14, e15, e12, show (4 : Int32) = nI 4 from rfl, show (64 : Int32) = nI 64 from rfl, show (8 : Int32) = nI 8 from rfl, show (128 : Int32) = nI 128 from rfl, zIfn hb, zIfn ho, pk_mul, pk_mul, nI_add, nI_add, nI_add, nI_add]
theorem nz_and4 (n : Nat) : nI n &&& 4 = nI (4 * (n / 4 % 2)) := by
  show nI n &&& nI 4 = _
  rw [nx_and]
  refine congrArg nI ?_
  have e : n &&& 4 = (n % 8) &&& 4 := by
    rw [show n % 8 = n &&& 7 from (Nat.and_two_pow_sub_one_eq_mod n 3).symm, Nat.and_assoc]
    rfl
  rw [e, show n / 4 % 2 = n % 8 / 4 by omega]
  have h8 : n % 8 < 8 := Nat.mod_lt _ (by omega)
  generalize n % 8 = r at h8
  exact co_dec (N := 8) (P := fun r => r &&& 4 = 4 * (r / 4)) (by decide +kernel) h8
theorem sPa_dec {T : Nat → Nat → Int32} {a : Nat} (h : sAl T a) :
    (sPa T a >>> (18 &&& 31) = T 16 a ∧ sPa T a &&& 3 = T 11 a ∧ (sPa T a >>> (7 &&& 31)) &&& 2047 = T 12 a) ∧ (sPa T a >>> (3 &&& 31)) &&& 7 = T 14 a ∧ (sPa T a >>> (6 &&& 31)) &&& 1 = T 15 a ∧ sPa T a &&& 262143 = sPb T a ∧ sPb T a &&& 4 = if T 13 a = 0 then (0 : Int32) else 4 := by
  obtain ⟨h11, h13, h14, h15, ⟨m, hm, e12⟩, h16⟩ := h
  obtain ⟨v, hv, e11⟩ := vp_in_of h11 (by omega)
  obtain ⟨y, hy, e14⟩ := vp_in_of h14 (by omega)
  obtain ⟨b, hb, e13⟩ := z01n h13
  obtain ⟨o, ho, e15⟩ := z01n h15
  obtain ⟨s, hs, e16⟩ : ∃ s : Nat, s ≤ 2 ∧ T 16 a = nI s := by
    rcases h16 with h | h | h
    · exact ⟨0, by omega, h⟩
    · exact ⟨1, by omega, h⟩
    · exact ⟨2, by omega, h⟩
  have eb := sPb_n e11 hb e13 e14 ho e15 e12
  have ea : sPa T a = nI (v + 4 * b + 8 * y + 64 * o + 128 * m + 262144 * s) := by rw [sPa_b, eb, e16, show (262144 : Int32) = nI 262144 from rfl, pk_mul, nI_add]
  have hz : v + 4 * b + 8 * y + 64 * o + 128 * m < 262144 := by omega
  have hz2 : v + 4 * b + 8 * y + 64 * o + 128 * m + 262144 * s < 2 ^ 31 := by omega
  rw [ea, eb, e11, e12, e13, e14, e15, e16]
  refine ⟨⟨?_, ?_, ?_⟩, ?_, ?_, ?_, ?_⟩
  · rw [pk_shrN hz2 _ 18 (by decide)]; exact congrArg nI (by omega)
  · rw [pk_andN (m := 3) (by omega) 2 (by decide)]; exact congrArg nI (by omega)
  · rw [pk_shrN hz2 _ 7 (by decide), pk_andN (m := 2047) (Nat.lt_of_le_of_lt (Nat.div_le_self _ _) (by omega)) 11 (by decide)]; exact congrArg nI (by omega)
  · rw [pk_shrN hz2 _ 3 (by decide), pk_andN (m := 7) (Nat.lt_of_le_of_lt (Nat.div_le_self _ _) (by omega)) 3 (by decide)]; exact congrArg nI (by omega)
  · rw [pk_shrN hz2 _ 6 (by decide), pk_andN (m := 1) (Nat.lt_of_le_of_lt (Nat.div_le_self _ _) (by omega)) 1 (by decide)]; exact congrArg nI (by omega)
  · rw [pk_andN (m := 262143) (by omega) 18 (by decide)]; exact congrArg nI (by omega)
  · rw [nz_and4, show (4 : Int32) = nI 4 from rfl, zIfn hb]; exact congrArg nI (by omega)
theorem sWatch_un {N : Nat → Nat} {T : Nat → Nat → Int32} {i : Nat} (h : sMet T i = false) : sWatch N T i = (N, va_up T 16 (upd (T 16) i 0)) := if_pos h
theorem sWatch_an {N : Nat → Nat} {T : Nat → Nat → Int32} {i : Nat} (h : sMet T i = true) (h1 : T 16 i = 1) : sWatch N T i = (N, T) := by
  rw [sWatch, if_neg (by rw [h]; decide), if_pos h1]
theorem sWatch_go {N : Nat → Nat} {T : Nat → Nat → Int32} {i : Nat} (h : sMet T i = true) (h1 : ¬ T 16 i = 1) : sWatch N T i = sWatch1 (sRaise N T i) i := by
  rw [sWatch, if_neg (by rw [h]; decide), if_neg h1]
theorem sRaise_y {N : Nat → Nat} {T : Nat → Nat → Int32} {i : Nat} (h : T 16 i = 0) : sRaise N T i = sNote N T 3 (-1) (nI i) := if_pos h
theorem sRaise_n {N : Nat → Nat} {T : Nat → Nat → Int32} {i : Nat} (h : ¬ T 16 i = 0) : sRaise N T i = (N, T) := if_neg h
theorem sNote_6 {N : Nat → Nat} {T : Nat → Nat → Int32} {a b c : Int32} : (sNote N T a b c).2 6 = T 6 ∧ (sNote N T a b c).2 19 = T 19 ∧ (sNote N T a b c).2 12 = T 12 := ⟨rfl, rfl, rfl⟩
theorem sTurn_6 {N : Nat → Nat} {T : Nat → Nat → Int32} {a b : Int32} {o : Bool} : (sTurn N T a b o).2 6 = T 6 ∧ (sTurn N T a b o).2 19 = T 19 := by
  unfold sTurn
  split <;> exact ⟨rfl, rfl⟩
theorem sWatch_6 {N : Nat → Nat} {T : Nat → Nat → Int32} {i : Nat} : (sWatch N T i).2 6 = T 6 ∧ (sWatch N T i).2 19 = T 19 ∧ (sWatch N T i).1 0 = N 0 ∧ (sWatch N T i).1 1 ≤ N 1 + 2 := by
  unfold sWatch
  split
  · exact ⟨rfl, rfl, rfl, by show N 1 ≤ N 1 + 2; omega⟩
  · split
    · exact ⟨rfl, rfl, rfl, by show N 1 ≤ N 1 + 2; omega⟩
    · have hr : (sRaise N T i).2 6 = T 6 ∧ (sRaise N T i).2 19 = T 19 ∧ (sRaise N T i).1 0 = N 0 ∧ (sRaise N T i).1 1 ≤ N 1 + 1 := by
        unfold sRaise
        split
        · exact ⟨rfl, rfl, rfl, by show N 1 + 1 ≤ N 1 + 1; omega⟩
        · exact ⟨rfl, rfl, rfl, by show N 1 ≤ N 1 + 1; omega⟩
      generalize sRaise N T i = S at hr
      obtain ⟨a, b, c, d⟩ := hr
      unfold sWatch1
      split
      · obtain ⟨t6, t19⟩ := sTurn_6 (N := S.1) (T := S.2) (a := -1) (b := S.2 14 i) (o := decide (S.2 15 i = 1))
        obtain ⟨t0, -, t2⟩ := sTurn_1 (N := S.1) (T := S.2) (a := -1) (b := S.2 14 i) (o := decide (S.2 15 i = 1))
        exact ⟨t6.trans a, t19.trans b, t0.trans c, by show (sTurn S.1 S.2 (-1) (S.2 14 i) (decide (S.2 15 i = 1))).1 1 ≤ _; omega⟩
      · exact ⟨a, b, c, by show S.1 1 ≤ _; omega⟩
theorem sWatches_6 {N : Nat → Nat} {T : Nat → Nat → Int32} : ∀ {i : Nat}, (sWatches i N T).2 6 = T 6 ∧ (sWatches i N T).2 19 = T 19 ∧ (sWatches i N T).1 0 = N 0 ∧ (sWatches i N T).1 1 ≤ N 1 + 2 * i
  | 0 => ⟨rfl, rfl, rfl, Nat.le_refl _⟩
  | i + 1 => by
    obtain ⟨a, b, c, d⟩ := sWatches_6 (N := N) (T := T) (i := i)
    obtain ⟨a2, b2, c2, d2⟩ := sWatch_6 (N := (sWatches i N T).1) (T := (sWatches i N T).2) (i := i)
    exact ⟨a2.trans a, b2.trans b, c2.trans c, Nat.le_trans d2 (by omega)⟩
theorem sLH_nt {N : Nat → Nat} {T : Nat → Nat → Int32} {a b c : Int32} {kd w x : Nat} (h : sLH N T) (h0 : N 0 ≤ 2000) (h2 : N 2 ≤ 40) (hk : kd = 0 ∨ kd = 3) (b2 : w ≤ 9) (b3 : x < 100) (ek : a = nI kd) (ew : b + 1 = nI w) (ex : c = nI x) : sLH (sNote N T a b c).1 (sNote N T a b c).2 :=
  sLH_note (kd := kd) h h0 b2 b3 hk h2 rfl rfl (by show upd (T 0) (N 1) (sCode (N 0) a b c) = _; rw [sCd_code ek ew ex]) rfl rfl rfl rfl
theorem sLH_turn {N : Nat → Nat} {T : Nat → Nat → Int32} {who v : Int32} {o : Bool} {w : Nat} (h : sLH N T) (h0 : N 0 ≤ 2000) (h2 : N 2 ≤ 40) (hv : vp_in v 8) (b2 : w ≤ 9) (ew : who + 1 = nI w) : sLH (sTurn N T who v o).1 (sTurn N T who v o).2 := by
  unfold sTurn
  split
  · exact h
  · obtain ⟨x, hx, ex⟩ := zV10 (b := o) hv
    exact sLH_nt (kd := 0) (sLH_eq h rfl rfl rfl rfl rfl rfl rfl) h0 h2 (Or.inl rfl) b2 hx rfl ew ex
theorem sLH_raise {N : Nat → Nat} {T : Nat → Nat → Int32} {i : Nat} (h : sLH N T) (h0 : N 0 ≤ 2000) (h2 : N 2 ≤ 40) (hi : i < 100) : sLH (sRaise N T i).1 (sRaise N T i).2 := by
  unfold sRaise
  split
  · exact sLH_nt (kd := 3) (w := 0) h h0 h2 (Or.inr rfl) (by omega) hi rfl (by decide) rfl
  · exact h
theorem sLH_watch {N : Nat → Nat} {T : Nat → Nat → Int32} {i : Nat} (h : sLH N T) (h0 : N 0 ≤ 2000) (h2 : N 2 ≤ 40) (hi : i < 100) (hv : vp_in (T 14 i) 8) : sLH (sWatch N T i).1 (sWatch N T i).2 := by
  unfold sWatch
  split
  · exact sLH_eq h rfl rfl rfl rfl rfl rfl rfl
  · split
    · exact h
    · have hr := sLH_raise (i := i) h h0 h2 hi
      have hk := sRaise_keep (N := N) (T := T) (i := i)
      have e0 := (sRaise_3 (N := N) (T := T) (i := i)).2.2.1
      have e2 := hk.1 2 (by omega)
      have e14 := hk.2 14 (by omega) (by omega) (by omega) (by omega) (by omega)
      generalize sRaise N T i = S at hr e0 e2 e14
      unfold sWatch1
      split
      · have := sLH_turn (who := -1) (v := S.2 14 i) (o := decide (S.2 15 i = 1)) (w := 0) hr (by rw [e0]; exact h0) (by rw [e2]; exact h2) (by rw [e14]; exact hv) (by omega) (by decide)
        exact sLH_eq this rfl rfl rfl rfl rfl rfl rfl
      · exact sLH_eq hr rfl rfl rfl rfl rfl rfl rfl
theorem sLH_watches {N : Nat → Nat} {T : Nat → Nat → Int32} {K : Nat} (h : sLH N T) (hI : sInv N T K 0) : ∀ {i : Nat}, i ≤ N 3 → sLH (sWatches i N T).1 (sWatches i N T).2
  | 0, _ => h
  | i + 1, hi => by
    have ih := sLH_watches h hI (show i ≤ N 3 by omega)
    have h2 := sWatches_keep (N := N) (T := T) (i := i)
    refine sLH_watch ih (by rw [sWatches_6.2.2.1]; exact hI.1.1) (by rw [h2.1 2 (by omega)]; exact hI.1.2.1) (by have := hI.1.2.2.1; omega) ?_
    rw [h2.2 14 (by omega) (by omega) (by omega) (by omega) (by omega)]
    exact (hI.2.2.2.2.1 i (by omega)).2.1
theorem nt0 {f : Nat → Int32} {v : Int32} {j : Nat} (h : f 1 = v) : f j = if j = 1 then v else f j := by
  split
  · rename_i c; rw [c, h]
  · rfl
theorem nt2 {f : Nat → Int32} {a b : Int32} {j : Nat} : upd (upd f 1 a) 1 b j = if j = 1 then b else f j := by rw [upd_twice]; rfl
theorem sPa_cg {T T2 : Nat → Nat → Int32} {a : Nat} (h11 : T2 11 = T 11) (h12 : T2 12 = T 12) (h13 : T2 13 = T 13) (h14 : T2 14 = T 14) (h15 : T2 15 = T 15) (h16 : T2 16 a = T 16 a) : sPa T2 a = sPa T a := by
  unfold sPa
  rw [h11, h12, h13, h14, h15, h16]
/-- the law's arrays behind what an hour keeps -/
theorem sLR_w {N : Nat → Nat} {T : Nat → Nat → Int32} {E E1 : Nat → Int64} {F F1 : Nat → Nat → Int32} {S : zS} {i : Nat} (h : sLR N T E F) (hk : sKeep N T S) (h6 : S.2 6 = T 6) (h19 : S.2 19 = T 19) (h0 : S.1 0 = N 0) (hE : sRE E1 (S.2 0) (S.1 1)) (hF : ∀ k, k ≠ 3 → k ≠ 9 → F1 k = F k) (h9 : ∀ j, F1 9 j = if j = 1 then nI (S.1 1) else F 9 j)
    (h3 : F1 3 = upd (F 3) i (sPb T i + 262144 * S.2 16 i)) (h16 : ∀ a, a ≠ i → S.2 16 a = T 16 a) : sLR S.1 S.2 E1 F1 := by
  obtain ⟨r0, r1, r2, r3, r4, r5, r6, r7, rt, r9⟩ := h
  have e : ∀ k, k ≠ 0 → k ≠ 3 → k ≠ 6 → k ≠ 16 → k ≠ 19 → S.2 k = T k := hk.2
  have e4 := e 4 (by omega) (by omega) (by omega) (by omega) (by omega)
  have e5 := e 5 (by omega) (by omega) (by omega) (by omega) (by omega)
  have e1 := e 1 (by omega) (by omega) (by omega) (by omega) (by omega)
  have e8 := e 8 (by omega) (by omega) (by omega) (by omega) (by omega)
  have e9 := e 9 (by omega) (by omega) (by omega) (by omega) (by omega)
  have e10 := e 10 (by omega) (by omega) (by omega) (by omega) (by omega)
  have e17 := e 17 (by omega) (by omega) (by omega) (by omega) (by omega)
  have n := fun k hk2 => hk.1 k hk2
  refine ⟨hE, ?_, ?_, ?_, ?_, ?_, ?_, ?_, ?_, ?_⟩
  · intro v hv; rw [hF 1 (by omega) (by omega), e4, e5]; exact r1 v hv
  · intro v hv; rw [hF 2 (by omega) (by omega), h6]; exact r2 v hv
  · intro a ha
    rw [n 3 (by omega)] at ha
    rw [h3]
    have hcg : S.2 16 a = T 16 a → sPa S.2 a = sPa T a := sPa_cg (e 11 (by omega) (by omega) (by omega) (by omega) (by omega)) (e 12 (by omega) (by omega) (by omega) (by omega) (by omega)) (e 13 (by omega) (by omega) (by omega) (by omega) (by omega)) (e 14 (by omega) (by omega) (by omega) (by omega) (by omega)) (e 15 (by omega) (by omega) (by omega) (by omega) (by omega))
    by_cases c : a = i
    · subst c
      rw [upd_at, sPa_b]
      unfold sPb
      rw [e 11 (by omega) (by omega) (by omega) (by omega) (by omega), e 12 (by omega) (by omega) (by omega) (by omega) (by omega), e 13 (by omega) (by omega) (by omega) (by omega) (by omega), e 14 (by omega) (by omega) (by omega) (by omega) (by omega), e 15 (by omega) (by omega) (by omega) (by omega) (by omega)]
    · rw [upd_no c, hcg (h16 a c)]; exact r3 a ha
  · intro t ht; rw [n 2 (by omega)] at ht; rw [hF 4 (by omega) (by omega), e8]; exact r4 t ht
  · unfold sR5; rw [n 2 (by omega), hF 5 (by omega) (by omega), e9, e10]; exact r5
  · intro p hp; rw [hF 6 (by omega) (by omega), e1]; exact r6 p hp
  · intro m hm
    rw [n 5 (by omega)] at hm
    rw [n (20 + m) (by omega), hF 7 (by omega) (by omega), e (20 + m) (by omega) (by omega) (by omega) (by omega) (by omega)]
    exact r7 m hm
  · unfold sRt; rw [n 4 (by omega), e17, h9 9, if_neg (by omega)]; exact rt
  · obtain ⟨q0, q1, q2, q3, q4, q5, q6, q7, q8⟩ := r9
    unfold sR9
    rw [h9 0, h9 1, h9 2, h9 3, h9 4, h9 5, h9 6, h9 7, h9 8, if_neg (by omega), if_pos rfl, if_neg (by omega), if_neg (by omega), if_neg (by omega), if_neg (by omega), if_neg (by omega), if_neg (by omega), if_neg (by omega), h0, h19, n 2 (by omega), n 3 (by omega), n 4 (by omega), n 5 (by omega), n 6 (by omega)]
    exact ⟨q0, rfl, q2, q3, q4, q5, q6, q7, q8⟩
/-- what the law knows at the head of look's loop -/
theorem lk_facts {N : Nat → Nat} {T : Nat → Nat → Int32} {E : Nat → Int64} {F : Nat → Nat → Int32} {K i : Nat} (hI : sInv N T K 0) (hG : sLG N T) (hH : sLH N T) (hb : N 1 ≤ 121) (h3 : N 3 ≤ 3) (hL : ∀ a, a < N 3 → ∃ x : Nat, x ≤ 1000 ∧ T 12 a = nI x) (hi : i ≤ N 3) (hR : sLR (sWatches i N T).1 (sWatches i N T).2 E F) :
    ∃ (Nw : Nat → Nat) (Tw : Nat → Nat → Int32), sWatches i N T = (Nw, Tw) ∧ sLR Nw Tw E F ∧ sLQ Nw Tw E F ∧ Nw 3 = N 3 ∧ Nw 1 ≤ 121 + 2 * i ∧ (i < N 3 → sAl Tw i) ∧ (∀ a, Nw 3 ≤ a → Tw 16 a = 0) := by
  have hk := sWatches_keep (N := N) (T := T) (i := i)
  have hI2 := sInv_watches hI hi
  have hG2 := sLG_watches hG hI hi
  have hH2 := sLH_watches hH hI hi
  obtain ⟨-, -, w0, w1⟩ := sWatches_6 (N := N) (T := T) (i := i)
  have e12 := hk.2 12 (by omega) (by omega) (by omega) (by omega) (by omega)
  have n3 := hk.1 3 (by omega)
  generalize hS : sWatches i N T = S at hR hI2 hG2 hH2 w0 w1 e12 n3
  obtain ⟨⟨i0, i2, i3, i4, i5, i6, i1⟩, hB, -, hT, hA, hA0, -⟩ := hI2
  obtain ⟨r0, r1, r2, r3, r4, r5, r6, r7, rt, r9⟩ := id hR
  refine ⟨S.1, S.2, rfl, hR, ⟨r0, ⟨by omega, i2, i0, by omega⟩, ⟨r9.1, r9.2.1, r9.2.2.1, r9.2.2.2.2.2.1⟩, r4, r6, hG2, hH2, fun t ht => ⟨(hT t ht).1, (hT t ht).2.1⟩, fun j => (hB j).1⟩, n3, by omega, fun hi3 => ?_, hA0⟩
  obtain ⟨a1, a2, a3⟩ := hA i (by omega)
  exact ⟨a1, (hB i).2.2.2.1, a2, (hB i).2.2.2.2, by rw [e12]; exact hL i hi3, a3⟩
/-- the readers' facts behind an entry of look's -/
theorem sLQ_nt {N : Nat → Nat} {T : Nat → Nat → Int32} {E E1 : Nat → Int64} {F F1 : Nat → Nat → Int32} {i : Nat} (h : sLQ N T E F) (hb : N 1 ≤ 126) (hi : i < 100) (hE : sRE E1 (upd (T 0) (N 1) (sCode (N 0) 3 (-1) (nI i))) (N 1 + 1)) (h4 : F1 4 = F 4) (h6 : F1 6 = F 6) (h9 : ∀ j, F1 9 j = if j = 1 then nI (N 1 + 1) else F 9 j) : sLQ (sNote N T 3 (-1) (nI i)).1 (sNote N T 3 (-1) (nI i)).2 E1 F1 := by
  obtain ⟨r0, ⟨b1, b2, b0, b6⟩, ⟨q0, q1, q2, q5⟩, r4, r6, hG, hH, hT, hB⟩ := h
  refine ⟨hE, ⟨by show N 1 + 1 ≤ 127; omega, b2, b0, b6⟩, ⟨?_, ?_, ?_, ?_⟩, ?_, ?_, sLG_note (kd := 3) (w := 0) hG b0 (by omega) (by omega) hi (by omega) rfl (by decide) rfl, sLH_nt (kd := 3) (w := 0) hH b0 b2 (Or.inr rfl) (by omega) hi rfl (by decide) rfl, hT, hB⟩
  · rw [h9]; exact q0
  · rw [h9]; rfl
  · rw [h9]; exact q2
  · rw [h9]; exact q5
  · intro t ht; rw [h4]; exact r4 t ht
  · intro p hp; rw [h6]; exact r6 p hp
theorem sLQ.f3 {N : Nat → Nat} {T : Nat → Nat → Int32} {E : Nat → Int64} {F : Nat → Nat → Int32} (h : sLQ N T E F) (f : Nat → Int32) : sLQ N T E (va_up F 3 f) := by
  obtain ⟨a, b, ⟨q0, q1, q2, q5⟩, d, e, g⟩ := h
  exact ⟨a, b, ⟨q0, q1, q2, q5⟩, d, e, g⟩
theorem sWatch1_w {S : zS} {i : Nat} (h : ¬ sOn S.1 S.2 (S.2 14 i) = 0) : sWatch1 S i = (S.1, va_up S.2 16 (upd (S.2 16) i 2)) := if_neg h
theorem sWatch1_t {S : zS} {i : Nat} (h : sOn S.1 S.2 (S.2 14 i) = 0) : sWatch1 S i = ((sTurn S.1 S.2 (-1) (S.2 14 i) (decide (S.2 15 i = 1))).1, va_up (sTurn S.1 S.2 (-1) (S.2 14 i) (decide (S.2 15 i = 1))).2 16 (upd ((sTurn S.1 S.2 (-1) (S.2 14 i) (decide (S.2 15 i = 1))).2 16) i 1)) := if_pos h
theorem sTurn_n {N : Nat → Nat} {T : Nat → Nat → Int32} {a v : Int32} {o : Bool} (h : T 3 v.toNatClampNeg = zb o) : sTurn N T a v o = (N, T) := if_pos h
theorem sTurn_y {N : Nat → Nat} {T : Nat → Nat → Int32} {a v : Int32} {o : Bool} (h : ¬ T 3 v.toNatClampNeg = zb o) : sTurn N T a v o = sNote N (va_up T 3 (upd (T 3) v.toNatClampNeg (zb o))) 0 a (v + if o then 10 else 0) := if_neg h
