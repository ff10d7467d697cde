/-! what a class's method takes as given beside its world: the words that the tables alone don't keep, the texts of exceptions, two statics of Throwable -/
def zKind : Cond → Bool
  | .castable .. | .fieldLinkNest .. | .methodLinkNest .. | .declares .. => true
  | _ => false
theorem zNw_warm {w : Cond} (hw : zKind w = true) {s U : State} (hW : s.WarmedH U.vm) (h : va_Nw w s) : va_Nw w U := by
  cases w <;> first | (simp [zKind] at hw; done) | exact va_Nw.warmC hW h | exact va_Nw.warmF hW h | exact va_Nw.warmM hW h | exact va_Nw.warmD hW h
def zNest : List Cond := [.fieldLinkNest RX6 100 "BoilerLog$Valve" "from" "I" "BoilerLog", .fieldLinkNest RX6 103 "BoilerLog$Valve" "to" "I" "BoilerLog", .fieldLinkNest RX6 165 "BoilerLog$Tag" "off" "Z" "BoilerLog", .fieldLinkNest RX6 168 "BoilerLog$Tag" "owner" "I" "BoilerLog", .fieldLinkNest RX6 177 "BoilerLog$Tag" "firstAsker" "I" "BoilerLog", .fieldLinkNest RX6 180 "BoilerLog$Tag" "valve" "I" "BoilerLog", .fieldLinkNest RX6 219 "BoilerLog$Alarm" "state" "I" "BoilerLog", .fieldLinkNest RX6 311 "BoilerLog$Alarm" "vessel" "I" "BoilerLog", .fieldLinkNest RX6 317 "BoilerLog$Alarm" "valve" "I" "BoilerLog", .fieldLinkNest RX6 318 "BoilerLog$Alarm" "opens" "Z" "BoilerLog", .fieldLinkNest RX6 91 "BoilerLog$Valve" "open" "Z" "BoilerLog", .methodLinkNest RX6 123 yX2_size "BoilerLog", .methodLinkNest RX6 127 yX2_kindAt "BoilerLog", .methodLinkNest RX6 130 yX2_valveTurnedAt "BoilerLog", .methodLinkNest RX6 133 yX2_opensAt "BoilerLog", .methodLinkNest RX6 147 yX4_init "BoilerLog", .methodLinkNest RX6 154 yX2_note "BoilerLog", .methodLinkNest RX6 183 yX2_whatAt "BoilerLog", .methodLinkNest RX6 205 yX2_codeAt "BoilerLog", .methodLinkNest RX6 214 yX0_init "BoilerLog", .methodLinkNest RX6 222 yX1_length "BoilerLog", .methodLinkNest RX6 229 yX1_put "BoilerLog", .methodLinkNest RX6 233 yX1_wipe "BoilerLog", .methodLinkNest RX6 236 yX1_isComplete "BoilerLog", .methodLinkNest RX6 247 yX1_toSigns "BoilerLog", .methodLinkNest RX6 251 yX3_init "BoilerLog", .methodLinkNest RX6 254 yX3_personCalled "BoilerLog", .methodLinkNest RX6 265 yX3_length "BoilerLog", .methodLinkNest RX6 269 yX3_get "BoilerLog", .methodLinkNest RX6 296 yX2_noteTurn "BoilerLog", .methodLinkNest RX6 314 yX0_isMetBy "BoilerLog", .methodLinkNest RX6 44 yX2_init "BoilerLog", .methodLinkNest RX6 51 yX1_init "BoilerLog", .methodLinkNest RX6 69 yX5_init "BoilerLog"]
def zThrow (ic : Nat) (C : String) : List Cond := vx_atS RX6 ic C ["java/lang/RuntimeException", "java/lang/Exception"]
def zBad (ic : Nat) (C : String) : List Cond := (zThrow ic C).filter (fun w => !goodWord w)
def zWords : List Cond := zNest ++ (zBad 204 "java/lang/IndexOutOfBoundsException" ++ zBad 99 "java/lang/IllegalStateException" ++ zBad 88 "java/lang/IllegalArgumentException")
def zTexts : List (String × Nat × String) := [("BoilerLog", 86, "no way for a valve"), ("BoilerLog", 97, "the valve is open"), ("BoilerLog", 117, "the person may not turn the valve"), ("BoilerLog", 143, "the person may not hang a tag"), ("BoilerLog", 171, "the person may not take the tag off"), ("BoilerLog", 193, "too few or too many hours"), ("BoilerLog", 195, "too late an hour"), ("BoilerLog", 202, "no such entry"), ("BoilerLog", 208, "no such level"), ("BoilerLog", 210, "too many alarms"), ("BoilerLog", 217, "no such alarm"), ("BoilerLog", 225, "no such place in the text"), ("BoilerLog", 227, "the text is full"), ("BoilerLog", 243, "the text cannot be posted"), ("BoilerLog", 260, "no open task of the person"), ("BoilerLog", 271, "no such person"), ("BoilerLog", 273, "no such valve"), ("BoilerLog", 278, "no such vessel"), ("BoilerLog", 280, "no such tag"), ("BoilerLog", 282, "no such thread"), ("BoilerLog", 284, "no such message"), ("BoilerLog", 286, "no such place in a message"), ("BoilerLog", 288, "the person has left")]
theorem zWords_kind : zWords.all zKind = true := by decide +kernel
def zNs (U : State) : Prop := (∀ w ∈ zWords, va_Nw w U) ∧ ∀ q ∈ zTexts, ∃ sa : Nat, vk_R q.1 q.2.1 q.2.2 sa U
theorem zNs.warm {s U : State} (hW : s.WarmedH U.vm) (h : zNs s) : zNs U := by
  refine ⟨fun w hw => zNw_warm (List.all_eq_true.mp zWords_kind w hw) hW (h.1 w hw), fun q hq => ?_⟩
  obtain ⟨sa, h1⟩ := h.2 q hq
  exact ⟨sa, h1.warm hW⟩
def zEnv (A : Nat → Prop) (U : State) (H : Heap) : Prop := vx_Zq Bundle.tN "UNASSIGNED_STACK" Bundle.steD A U H ∧ vx_Zq Bundle.tN "SUPPRESSED_SENTINEL" Bundle.listD A U H ∧ zNs U
theorem zEnv.to {A B : Nat → Prop} {s U : State} {H : Heap} {locs : List Loc} (h : zEnv A s s.heap) (hS : va_S A s.heap H locs) (hU : U.heap = H) (hW : s.WarmedH U.vm) (hAB : ∀ q, B q → A q) : zEnv B U U.heap := by
  rw [hU]
  exact ⟨vx_Zq.moved hW.alike ((h.1.kept hS.2.1).narrow hAB), vx_Zq.moved hW.alike ((h.2.1.kept hS.2.1).narrow hAB), h.2.2.warm hW⟩
theorem zEnv.alike {A : Nat → Prop} {U U2 : State} {H : Heap} (hvm : U.vm = U2.vm) (h : zEnv A U H) : zEnv A U2 H := by
  have ha : U.vm.Alike U2.vm := by rw [hvm]; exact Vm.Alike.refl _
  refine ⟨vx_Zq.moved ha h.1, vx_Zq.moved ha h.2.1, fun w hw => va_Nw.same ?_ hvm (h.2.2.1 w hw), fun q hq => ?_⟩
  · have := List.all_eq_true.mp zWords_kind w hw
    cases w <;> first | rfl | (simp [zKind] at this; done)
  · obtain ⟨sa, h1⟩ := h.2.2.2 q hq
    exact ⟨sa, h1.same hvm.symm⟩
/-- a checking method's start -/
def zPx (G : zG) (w : va_W) (U : State) : Prop := va_P G.1 vwCl w U.heap ∧ va_K G.1 vwCl (zT G.2) U ∧ zEnv (fun _ => False) U U.heap
theorem zPx.blind {G : zG} {w : va_W} {av : List Value} : FrameBlind (va_Pc av (zPx G w)) := fun a U g mk q => ⟨q.1, q.2.1, va_K.moved (u := U) (U := U.calling g mk a) (Vm.Alike.refl U.vm) q.2.2.1, zEnv.alike (U := U) (U2 := U.calling g mk a) rfl q.2.2.2⟩
abbrev zQx (post : Prop) : Array Value → State → Outcome → State → Prop := va_Qv (fun _ : Unit => post) (fun _ _ => True) (fun _ => False)
abbrev zXx (C : String) (post : Prop) : String → State → State → Prop := vx_X (fun _ : Unit => post) (fun E _ _ => E = C) (fun _ => False)
