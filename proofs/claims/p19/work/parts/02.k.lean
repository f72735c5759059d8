/-- words that only the tables decide, but for which the kit has rows of their own: nest mates, casts -/
def zz_k : Cond → Bool
  | .fieldLinkNest _ _ _ _ _ _ => true
  | .methodLinkNest _ _ _ _ => true
  | .castable _ _ => true
  | .declares _ => true
  | _ => false
def zl : List Cond := tables_1.filter zz_k
theorem zl_t {w : Cond} (i : Nat) (h : tables_1[i]? = some w) (g : zz_k w = true) : w ∈ zl := List.mem_filter.mpr ⟨List.mem_of_getElem? h, g⟩
theorem zl_c {w : Cond} {l : List Cond} (hl : ∀ w ∈ l, w ∈ tables_1) (j : Nat) (h : l[j]? = some w) (g : zz_k w = true) : w ∈ zl := List.mem_filter.mpr ⟨hl w (List.mem_of_getElem? h), g⟩
theorem zz_warm {w : Cond} {s U : State} (k : zz_k w = true) (hW : s.WarmedH U.vm) (h : va_Nw w s) : va_Nw w U := by
  cases w <;> first | exact va_Nw.warmF hW h | exact va_Nw.warmM hW h | exact va_Nw.warmC hW h | exact va_Nw.warmD hW h | (simp [zz_k] at k)
theorem zz_tab {w : Cond} (k : zz_k w = true) : w.onTables = true := by
  cases w <;> first | rfl | (simp [zz_k] at k)
/-- the texts of the class's exceptions: class, entry, text -/
def zs : List (String × Nat × String) := [("StepCourt", 302, "there is no such party"), ("StepCourt", 89, "the amount is below 1"), ("StepCourt", 100, "not enough money or room"), ("StepCourt", 113, "the inbox is full"), ("StepCourt", 120, "there is an assertion"), ("StepCourt", 123, "the steps are not 1 to 64"), ("StepCourt", 308, "the balance is below the stake"), ("StepCourt", 152, "this party can't begin a game now"), ("StepCourt", 304, "there is no such game"), ("StepCourt", 306, "that is not to be done in this game now"), ("StepCourt", 188, "there is no such part of a proof"), ("StepCourt", 229, "there is no such payment"), ("StepCourt", 236, "the payment can't be drawn now"), ("StepCourt", 241, "the payment's amount is below 1"), ("StepCourt", 243, "the pot has less")]
/-- classes that can't be cast -/
def zn : List (String × String) := [("java/lang/IndexOutOfBoundsException", "java/lang/IllegalArgumentException"), ("java/lang/IndexOutOfBoundsException", "java/lang/UnsupportedOperationException"), ("java/lang/IndexOutOfBoundsException", "java/lang/IllegalStateException"), ("java/lang/IllegalArgumentException", "java/lang/IndexOutOfBoundsException"), ("java/lang/IllegalArgumentException", "java/lang/UnsupportedOperationException"), ("java/lang/IllegalArgumentException", "java/lang/IllegalStateException"), ("java/lang/UnsupportedOperationException", "java/lang/IndexOutOfBoundsException"), ("java/lang/UnsupportedOperationException", "java/lang/IllegalArgumentException"), ("java/lang/UnsupportedOperationException", "java/lang/IllegalStateException"), ("java/lang/IllegalStateException", "java/lang/IndexOutOfBoundsException"), ("java/lang/IllegalStateException", "java/lang/IllegalArgumentException"), ("java/lang/IllegalStateException", "java/lang/UnsupportedOperationException")]
/-- what a method may use of the tables beside the good words -/
def zq (U : State) : Prop := (∀ w ∈ zl, va_Nw w U) ∧ va_AO "StepCourt$Game" U ∧ (∀ x ∈ zs, ∃ a, vk_R x.1 x.2.1 x.2.2 a U) ∧ (∀ x ∈ zn, va_Nc x.1 x.2 U)
theorem zq_warm {s U : State} (hW : s.WarmedH U.vm) (h : zq s) : zq U := ⟨fun w hw => zz_warm (List.mem_filter.mp hw).2 hW (h.1 w hw), va_AO.moved hW.alike h.2.1, fun x hx => (h.2.2.1 x hx).imp fun a ha => vk_R.warm hW ha, fun x hx => va_Nc.moved hW.alike (h.2.2.2 x hx)⟩
theorem zq_same {u U : State} (hv : u.vm = U.vm) (h : zq u) : zq U := ⟨fun w hw => va_Nw.same (zz_tab (List.mem_filter.mp hw).2) hv (h.1 w hw), va_AO.moved (by rw [hv]; exact Vm.Alike.refl _) h.2.1, fun x hx => (h.2.2.1 x hx).imp fun a ha => vk_R.same hv.symm ha, fun x hx => va_Nc.moved (by rw [hv]; exact Vm.Alike.refl _) (h.2.2.2 x hx)⟩
/-- the words of a throw that speak of the heap: Throwable's two statics -/
def th : List Cond := [.isRef (.static Bundle.tN "UNASSIGNED_STACK" Bundle.steD), .isRef (.static Bundle.tN "SUPPRESSED_SENTINEL" Bundle.listD), .laysStatic Bundle.tN "UNASSIGNED_STACK" Bundle.steD, .laysStatic Bundle.tN "SUPPRESSED_SENTINEL" Bundle.listD]
/-- they hold now and in every later state that leaves alone what isn't A -/
def tz (A : Nat → Prop) (U : State) : Prop := ∀ V : State, U.WarmedH V.vm → U.heap.size ≤ V.heap.size → (∀ q : Nat, q < U.heap.size → ¬ A q → V.heap[q]? = U.heap[q]?) → ∀ w ∈ th, ∀ a : Array Value, w.before a V = true
theorem tz_same {A : Nat → Prop} {u U : State} (hv : u.vm = U.vm) (hh : u.heap = U.heap) (h : tz A u) : tz A U := fun V h1 h2 h3 => h V (State.WarmedH.trans (by rw [← hv]; exact State.WarmedH.refl u) h1) (by rw [hh]; exact h2) (by rw [hh]; exact h3)
theorem tz_next {A B : Nat → Prop} {s U : State} {H : Heap} {locs : List Loc} (hW : s.WarmedH U.vm) (hU : U.heap = H) (hS : va_S A s.heap H locs) (hAB : ∀ q, B q → A q) (h : tz A s) : tz B U := fun V h1 h2 h3 => by
  rw [hU] at h2 h3
  exact h V (State.WarmedH.trans hW h1) (Nat.le_trans hS.1 h2) (fun q hq hA => (h3 q (Nat.lt_of_lt_of_le hq hS.1) (fun hB => hA (hAB q hB))).trans (hS.2.1 q hq hA))
/-- a method's start -/
abbrev kp_P (dC : Nat → ClassId) (dI : Nat → Nat → Nat) (av : List Value) (sz : Nat) (WS : va_W) (TYS : List (ClassId × FieldType)) : Array Value → State → Prop := va_Pc av (fun U => U.heap.size = sz ∧ va_P (dC, dI) vwCl WS U.heap ∧ va_K (dC, dI) vwCl TYS U ∧ va_D (fun _ => True) WS ∧ zq U)
/-- a method's end -/
abbrev kp_B (dC : Nat → ClassId) (dI : Nat → Nat → Nat) (A : Nat → Prop) (WS : va_W) (TYS : List (ClassId × FieldType)) (t : State) : Prop := va_P (dC, dI) vwCl WS t.heap ∧ va_K (dC, dI) vwCl TYS t ∧ va_D A WS
theorem kp_bl {dC : Nat → ClassId} {dI : Nat → Nat → Nat} {av : List Value} {sz : Nat} {WS : va_W} {TYS : List (ClassId × FieldType)} : FrameBlind (kp_P dC dI av sz WS TYS) := fun a U g mk q => by
  obtain ⟨q0, q1, qP, qK, qD, qZ⟩ := q
  exact ⟨q0, q1, qP, va_K.moved (u := U) (U := U.calling g mk a) (Vm.Alike.refl U.vm) qK, qD, zq_same (u := U) rfl qZ⟩
theorem kp_at {dC : Nat → ClassId} {dI : Nat → Nat → Nat} {s : State} {H : Heap} {A : Nat → Prop} {WS : va_W} {TYS : List (ClassId × FieldType)} {av : List Value} (hP : va_P (dC, dI) vwCl WS H) (hK : va_K (dC, dI) vwCl TYS s) (hD : va_D A WS) (hZ : zq s) : ∀ U : State, U.heap = H → s.WarmedH U.vm → kp_P dC dI av H.size WS TYS av.toArray U := fun U hU hW =>
  ⟨rfl, by rw [hU], by rw [hU]; exact hP, va_K.moved hW.alike hK, hD.weaken (fun _ _ _ _ => trivial), zq_warm hW hZ⟩
theorem cq_B {R : Room} {s : State} {args : Array Value} {own : String} {index : Nat} {y : MethodName} {bytes : ByteArray} {maxL mc ms : Nat} {ret : Option FieldType} {rm : Room} (n : Nat) (hq : ∀ w ∈ wz, w.before args s = true) (hc : Cond.code y bytes maxL ret ∈ wz) (hl : Cond.methodLink own index y ∈ wz) (hi : Cond.initialized y.cls ∈ wz) (hrc : rm.cells = mc) (hrs : rm.slots = ms)
    (hd : y.cls ≠ "java/lang/invoke/MethodHandle" ∧ y.cls ≠ "java/lang/invoke/VarHandle" ∧ (parseMethodDescriptor y.desc).map (fun d => d.parameters.length) = some n) (hR : rm.frames + 1 ≤ R.frames ∧ 8 + (maxL + 11) + rm.locals ≤ R.locals) : CallB R s args own index y bytes maxL ret (Cond.code y bytes maxL ret :: wz) rm mc ms n :=
  callB_of n hq (wz_g (x := .tt) hc) rfl hrc hrs (hq _ hi) (hq _ hl) hd hR
theorem cq_N {R : Room} {s : State} {args : Array Value} {own host : String} {index : Nat} {y : MethodName} {bytes : ByteArray} {maxL mc ms : Nat} {ret : Option FieldType} {rm : Room} (n : Nat) (hq : ∀ w ∈ wz, w.before args s = true) (hc : Cond.code y bytes maxL ret ∈ wz) (hl : va_Nw (.methodLinkNest own index y host) s) (hi : Cond.initialized y.cls ∈ wz) (hrc : rm.cells = mc) (hrs : rm.slots = ms)
    (hd : y.cls ≠ "java/lang/invoke/MethodHandle" ∧ y.cls ≠ "java/lang/invoke/VarHandle" ∧ (parseMethodDescriptor y.desc).map (fun d => d.parameters.length) = some n) (hR : rm.frames + 1 ≤ R.frames ∧ 8 + (maxL + 11) + rm.locals ≤ R.locals) : va_CN R s args own index y host bytes maxL ret (Cond.code y bytes maxL ret :: wz) rm mc ms n :=
  va_cnB n hq (wz_g (x := .tt) hc) rfl hrc hrs hl (hq _ hi) hd hR
/-- the start of a method that may throw -/
abbrev kx_P (dC : Nat → ClassId) (dI : Nat → Nat → Nat) (av : List Value) (sz : Nat) (WS : va_W) (TYS : List (ClassId × FieldType)) : Array Value → State → Prop := va_Pc av (fun U => U.heap.size = sz ∧ va_P (dC, dI) vwCl WS U.heap ∧ va_K (dC, dI) vwCl TYS U ∧ va_D (fun _ => True) WS ∧ zq U ∧ tz (va_A WS sz) U)
theorem kx_bl {dC : Nat → ClassId} {dI : Nat → Nat → Nat} {av : List Value} {sz : Nat} {WS : va_W} {TYS : List (ClassId × FieldType)} : FrameBlind (kx_P dC dI av sz WS TYS) := fun a U g mk q => by
  obtain ⟨q0, q1, qP, qK, qD, qZ, qT⟩ := q
  exact ⟨q0, q1, qP, va_K.moved (u := U) (U := U.calling g mk a) (Vm.Alike.refl U.vm) qK, qD, zq_same (u := U) rfl qZ, tz_same (u := U) rfl rfl qT⟩
theorem kx_at {dC : Nat → ClassId} {dI : Nat → Nat → Nat} {s : State} {H : Heap} {A A0 : Nat → Prop} {WS : va_W} {TYS : List (ClassId × FieldType)} {av : List Value} {locs : List Loc} (hP : va_P (dC, dI) vwCl WS H) (hK : va_K (dC, dI) vwCl TYS s) (hD : va_D A WS) (hZ : zq s) (hF : ∀ q, va_A WS H.size q → A0 q) (hS : va_S A0 s.heap H locs) (hz : tz A0 s) : ∀ U : State, U.heap = H → s.WarmedH U.vm → kx_P dC dI av H.size WS TYS av.toArray U := fun U hU hW =>
  ⟨rfl, by rw [hU], by rw [hU]; exact hP, va_K.moved hW.alike hK, hD.weaken (fun _ _ _ _ => trivial), zq_warm hW hZ, tz_next hW hU hS hF hz⟩

theorem zt_29 : Cond.methodLinkNest "StepCourt" 15 ⟨"StepCourt$Code", "<init>", "()V"⟩ "StepCourt" ∈ zl := zl_c tq_1_in 5 rfl rfl
theorem zt_34 : Cond.fieldLinkNest "StepCourt" 77 "StepCourt$Code" "ops" "[I" "StepCourt" ∈ zl := zl_c tq_1_in 10 rfl rfl
theorem zt_35 : Cond.fieldLinkNest "StepCourt$Machine" 52 "StepCourt$Code" "ops" "[I" "StepCourt" ∈ zl := zl_c tq_1_in 11 rfl rfl
theorem zt_37 : Cond.fieldLinkNest "StepCourt" 80 "StepCourt$Code" "arguments" "[I" "StepCourt" ∈ zl := zl_c tq_1_in 13 rfl rfl
theorem zt_38 : Cond.fieldLinkNest "StepCourt$Machine" 47 "StepCourt$Code" "arguments" "[I" "StepCourt" ∈ zl := zl_c tq_1_in 14 rfl rfl
theorem zt_47 : Cond.methodLinkNest "StepCourt" 22 ⟨"StepCourt$Inbox", "<init>", "()V"⟩ "StepCourt" ∈ zl := zl_c tq_1_in 23 rfl rfl
theorem zt_53 : Cond.fieldLinkNest "StepCourt" 110 "StepCourt$Inbox" "size" "I" "StepCourt" ∈ zl := zl_c tq_2_in 5 rfl rfl
theorem zt_61 : Cond.methodLinkNest "StepCourt" 29 ⟨"StepCourt$Machine", "<init>", "()V"⟩ "StepCourt" ∈ zl := zl_c tq_2_in 13 rfl rfl
theorem zt_66 : Cond.fieldLinkNest "StepCourt$Proof" 30 "StepCourt$Machine" "cells" "[I" "StepCourt" ∈ zl := zl_c tq_2_in 18 rfl rfl
theorem zt_68 : Cond.fieldLinkNest "StepCourt$Proof" 41 "StepCourt$Machine" "tree" "[J" "StepCourt" ∈ zl := zl_c tq_2_in 20 rfl rfl
theorem zt_70 : Cond.fieldLinkNest "StepCourt$Proof" 44 "StepCourt$Machine" "pc" "I" "StepCourt" ∈ zl := zl_c tq_2_in 22 rfl rfl
theorem zt_71 : Cond.fieldLinkNest "StepCourt" 258 "StepCourt$Machine" "pc" "I" "StepCourt" ∈ zl := zl_c tq_2_in 23 rfl rfl
theorem zt_73 : Cond.fieldLinkNest "StepCourt$Proof" 47 "StepCourt$Machine" "a" "I" "StepCourt" ∈ zl := zl_c tq_3_in 1 rfl rfl
theorem zt_74 : Cond.fieldLinkNest "StepCourt" 261 "StepCourt$Machine" "a" "I" "StepCourt" ∈ zl := zl_c tq_3_in 2 rfl rfl
theorem zt_76 : Cond.fieldLinkNest "StepCourt$Proof" 50 "StepCourt$Machine" "b" "I" "StepCourt" ∈ zl := zl_c tq_3_in 4 rfl rfl
theorem zt_77 : Cond.fieldLinkNest "StepCourt" 264 "StepCourt$Machine" "b" "I" "StepCourt" ∈ zl := zl_c tq_3_in 5 rfl rfl
theorem zt_79 : Cond.fieldLinkNest "StepCourt$Proof" 53 "StepCourt$Machine" "read" "I" "StepCourt" ∈ zl := zl_c tq_3_in 7 rfl rfl
theorem zt_80 : Cond.fieldLinkNest "StepCourt" 267 "StepCourt$Machine" "read" "I" "StepCourt" ∈ zl := zl_c tq_3_in 8 rfl rfl
theorem zt_82 : Cond.fieldLinkNest "StepCourt$Proof" 56 "StepCourt$Machine" "paid" "I" "StepCourt" ∈ zl := zl_c tq_3_in 10 rfl rfl
theorem zt_83 : Cond.fieldLinkNest "StepCourt" 270 "StepCourt$Machine" "paid" "I" "StepCourt" ∈ zl := zl_c tq_3_in 11 rfl rfl
theorem zt_85 : Cond.fieldLinkNest "StepCourt$Proof" 59 "StepCourt$Machine" "trail" "J" "StepCourt" ∈ zl := zl_c tq_3_in 13 rfl rfl
theorem zt_86 : Cond.fieldLinkNest "StepCourt" 273 "StepCourt$Machine" "trail" "J" "StepCourt" ∈ zl := zl_c tq_3_in 14 rfl rfl
theorem zt_107 : Cond.methodLinkNest "StepCourt" 39 ⟨"StepCourt$Payments", "<init>", "()V"⟩ "StepCourt" ∈ zl := zl_c tq_4_in 11 rfl rfl
theorem zt_112 : Cond.fieldLinkNest "StepCourt" 245 "StepCourt$Payments" "receivers" "[I" "StepCourt" ∈ zl := zl_c tq_4_in 16 rfl rfl
theorem zt_114 : Cond.fieldLinkNest "StepCourt" 238 "StepCourt$Payments" "amounts" "[I" "StepCourt" ∈ zl := zl_c tq_4_in 18 rfl rfl
theorem zt_116 : Cond.fieldLinkNest "StepCourt" 232 "StepCourt$Payments" "drawn" "[Z" "StepCourt" ∈ zl := zl_c tq_4_in 20 rfl rfl
theorem zt_118 : Cond.fieldLinkNest "StepCourt" 224 "StepCourt$Payments" "count" "I" "StepCourt" ∈ zl := zl_c tq_4_in 22 rfl rfl
theorem zt_131 : Cond.methodLinkNest "StepCourt" 46 ⟨"StepCourt$Proof", "<init>", "()V"⟩ "StepCourt" ∈ zl := zl_c tq_5_in 11 rfl rfl
theorem zt_136 : Cond.methodLinkNest "StepCourt$Proof" 11 ⟨"StepCourt$Machine", "<init>", "()V"⟩ "StepCourt" ∈ zl := zl_c tq_5_in 16 rfl rfl
theorem zt_138 : Cond.fieldLinkNest "StepCourt" 325 "StepCourt$Proof" "given" "LStepCourt$Machine;" "StepCourt" ∈ zl := zl_c tq_5_in 18 rfl rfl
theorem zt_153 : Cond.methodLinkNest "StepCourt" 53 ⟨"StepCourt$Assertion", "<init>", "()V"⟩ "StepCourt" ∈ zl := zl_c tq_6_in 9 rfl rfl
theorem zt_158 : Cond.fieldLinkNest "StepCourt" 115 "StepCourt$Assertion" "isOpen" "Z" "StepCourt" ∈ zl := zl_c tq_6_in 14 rfl rfl
theorem zt_160 : Cond.fieldLinkNest "StepCourt" 73 "StepCourt$Assertion" "everMade" "Z" "StepCourt" ∈ zl := zl_c tq_6_in 16 rfl rfl
theorem zt_162 : Cond.fieldLinkNest "StepCourt" 142 "StepCourt$Assertion" "asserter" "I" "StepCourt" ∈ zl := zl_c tq_6_in 18 rfl rfl
theorem zt_164 : Cond.fieldLinkNest "StepCourt" 154 "StepCourt$Assertion" "steps" "I" "StepCourt" ∈ zl := zl_c tq_6_in 20 rfl rfl
theorem zt_166 : Cond.fieldLinkNest "StepCourt" 190 "StepCourt$Assertion" "limit" "I" "StepCourt" ∈ zl := zl_c tq_6_in 22 rfl rfl
theorem zt_168 : Cond.fieldLinkNest "StepCourt" 284 "StepCourt$Assertion" "madeAt" "I" "StepCourt" ∈ zl := zl_c tq_7_in 0 rfl rfl
theorem zt_169 : Cond.fieldLinkNest "StepCourt" 139 "StepCourt$Assertion" "claim" "J" "StepCourt" ∈ zl := zl_c tq_7_in 1 rfl rfl
theorem zt_188 : Cond.methodLinkNest "StepCourt" 64 ⟨"StepCourt$Game", "<init>", "()V"⟩ "StepCourt" ∈ zl := zl_c tq_7_in 20 rfl rfl
theorem zt_193 : Cond.fieldLinkNest "StepCourt" 293 "StepCourt$Game" "challenger" "I" "StepCourt" ∈ zl := zl_c tq_8_in 1 rfl rfl
theorem zt_195 : Cond.fieldLinkNest "StepCourt" 185 "StepCourt$Game" "low" "I" "StepCourt" ∈ zl := zl_c tq_8_in 3 rfl rfl
theorem zt_197 : Cond.fieldLinkNest "StepCourt" 182 "StepCourt$Game" "high" "I" "StepCourt" ∈ zl := zl_c tq_8_in 5 rfl rfl
theorem zt_199 : Cond.fieldLinkNest "StepCourt" 204 "StepCourt$Game" "agreed" "J" "StepCourt" ∈ zl := zl_c tq_8_in 7 rfl rfl
theorem zt_201 : Cond.fieldLinkNest "StepCourt" 207 "StepCourt$Game" "disputed" "J" "StepCourt" ∈ zl := zl_c tq_8_in 9 rfl rfl
theorem zt_203 : Cond.fieldLinkNest "StepCourt" 175 "StepCourt$Game" "middle" "J" "StepCourt" ∈ zl := zl_c tq_8_in 11 rfl rfl
theorem zt_206 : Cond.fieldLinkNest "StepCourt" 296 "StepCourt$Game" "deadline" "I" "StepCourt" ∈ zl := zl_c tq_8_in 14 rfl rfl
theorem zt_208 : Cond.fieldLinkNest "StepCourt" 310 "StepCourt$Game" "isRunning" "Z" "StepCourt" ∈ zl := zl_c tq_8_in 16 rfl rfl
theorem zt_448 : Cond.castable "java/lang/IndexOutOfBoundsException" "java/lang/IndexOutOfBoundsException" ∈ zl := zl_c tq_18_in 16 rfl rfl
theorem zt_517 : Cond.castable "java/lang/IllegalArgumentException" "java/lang/IllegalArgumentException" ∈ zl := zl_c tq_21_in 13 rfl rfl
theorem zt_537 : Cond.castable "java/lang/UnsupportedOperationException" "java/lang/UnsupportedOperationException" ∈ zl := zl_c tq_22_in 9 rfl rfl
theorem zt_573 : Cond.castable "java/lang/IllegalStateException" "java/lang/IllegalStateException" ∈ zl := zl_c tq_23_in 21 rfl rfl
