/-! calls that may end by an exception, and calls over a deep operand stack: own rows over the library's Steps.callFree, Stand.invokevirtual, Stand.invokestatic, Stand.leaveThrown, Stand.ctorThrowS, Steps.caught -/
section TXA
variable {p : Program} {l : Launch} {e : Env} {R : Room} {s : State} {m : MethodId} {args : Array Value} {below : List Frame} {meth : Method} {c : Code}
/-- what every end says of the state: tables warmer, at most mc cells of ms slots new, written only where 'free' -/
def tx_E (st t : State) (free : Addr → Prop) (mc ms : Nat) : Prop := st.WarmedH t.vm ∧ ∃ L : List Loc, st.sameButNew ({ t with vm := st.vm } : State) L mc ms ∧ ∀ q ∈ L, free q.base
/-- a contract whose Qc tells of both ends -/
def tx_Met (l : Launch) (y : MethodName) (ws : List Cond) (rm : Room) (Pc : Array Value → State → Prop) (Qc : Array Value → State → Outcome → State → Prop) (mc ms : Nat) (free : Addr → Prop) : Prop :=
  MetFree l y (headSpec ws rm) Pc (fun _ _ _ _ _ => True) (fun a st o t => Qc a st o t ∧ tx_E st t free mc ms)
/-- the invocation stands again behind any end of a callee -/
theorem tx_stand {T : State} {locs : List Loc} {cells slots : Nat} (X : Stand p l e R s m args below meth c T locs cells slots) {g : JFrame} {mk : MethodId} {a : Array Value} {t : State} {L : List Loc} {mc ms : Nat}
    (hW : (T.calling g mk a).WarmedH t.vm) (hsm : (T.calling g mk a).sameButNew ({ t with vm := (T.calling g mk a).vm } : State) L mc ms) :
    Stand p l e R s m args below meth c (({ T with heap := t.heap, slotsUsed := t.slotsUsed } : State).setVm t.vm) (locs ++ L) (cells + mc) (slots + ms) := by
  obtain ⟨-, q2, q3, q4, q5, q6⟩ := hsm
  have hW' : T.WarmedH t.vm := hW
  obtain ⟨g₀, hg0⟩ := Option.isSome_iff_exists.mp X.here.top
  obtain ⟨r, hr⟩ := State.topJava?_eq_some.mp hg0
  have hsame : T.sameButNew ({ T with heap := t.heap, slotsUsed := t.slotsUsed } : State) L mc ms := by
    refine ⟨?_, q2, q3, q4, q5, q6⟩
    obtain ⟨th, ht, -⟩ := State.frames_cons hr
    show ({ T with heap := t.heap, slotsUsed := t.slotsUsed } : State) = { T.setFrames T.frames with heap := t.heap, slotsUsed := t.slotsUsed }
    rw [State.setFrames_self ht]
  exact ⟨X.admits, X.cas, X.clock, X.frames, X.room, X.hears, X.method, X.code, (X.here.setHeapUsed t.heap t.slotsUsed).setVm hW'.alike, X.tail, State.WarmedH.trans X.warmed hW', X.limits, X.bytes, X.same.trans (hsame.setVm s.vm)⟩
theorem tx_back {T : State} {locs : List Loc} {cells slots : Nat} (X : Stand p l e R s m args below meth c T locs cells slots) {y : MethodName} {ws : List Cond} {rm : Room} {Pc : Array Value → State → Prop} {Qc : Array Value → State → Outcome → State → Prop} {mc ms : Nat} {free : Addr → Prop}
    (hM : tx_Met l y ws rm Pc Qc mc ms free) {mk : MethodId} {methY : Method} {cY : Code} {kY : Class} (hn : T.methodNamed? y = some mk) (hmY : T.vm.method? mk = some methY) (hcY : methY.code = some cY) (hkY : T.vm.classes[mk.cls]? = some kY) (hiY : kY.init = .initialized)
    {g : JFrame} {ig : Instr} {len : Nat} {a : Array Value} (hg : g.method = m) (hsize : g.locals.size = c.maxLocals) (hdg : decode c.code g.pc = .ok (ig, len)) (hws : (headSpec ws rm).pre.before a T = true)
    (hfr : rm.frames + 1 ≤ R.frames) (hlo : 2 * g.monitorRoom + (g.stack.map fun v => v.category).sum + (cY.maxLocals + 11) + rm.locals ≤ R.locals) (hc : cells + rm.cells ≤ R.cells) (hs : slots + rm.slots ≤ R.slots) (hPc : Pc a (T.calling g mk a)) :
    ∃ (o : Outcome) (t T' : State) (L : List Loc), Stand p l e R s m args below meth c T' (locs ++ L) (cells + mc) (slots + ms) ∧ (∀ q ∈ L, free q.base) ∧ T'.heap = t.heap ∧ T'.vm = t.vm ∧ Qc a (T.calling g mk a) o t ∧
      ((∃ v, o = .returned v ∧ Steps p.tables e below (doInvoke e (T.setTop g) [] mk a).1 (T'.setTop { g with pc := g.pc + len, stack := v.toList ++ g.stack })) ∨
       (∃ q, o = .threw q ∧ Steps p.tables e below (doInvoke e (T.setTop g) [] mk a).1 ((T'.setTop g).pushFrame (.throwing q)))) := by
  have h : At T g.method c below := by rw [hg]; exact X.here
  have happ : (headSpec ws rm).appliesLoose y e.platform (T.calling g mk a) = true :=
    Spec.appliesLoose_calling (g := g) h hdg hn hkY hiY (X.room_calling (g := g) (R' := (headSpec ws rm).room) hsize hmY hcY hfr hlo hc hs) hws
  obtain ⟨mid, hmid⟩ := h.above
  have hfrm : (T.setTop g).frames = (.java g :: mid) ++ below := by rw [State.frames_setTop' g h.top, hmid]; rfl
  obtain ⟨o, t, hsteps, -, hend, hq, hW, L, hsm, hL⟩ := Steps.callFree hM p X.admits X.cas X.clock (acts := []) hfrm happ hPc trivial
  have hW : (T.calling g mk a).WarmedH t.vm := hW
  have hsm : (T.calling g mk a).sameButNew ({ t with vm := (T.calling g mk a).vm } : State) L mc ms := hsm
  have hq : Qc a (T.calling g mk a) o t := hq
  have hW' : T.WarmedH t.vm := hW
  rw [State.frames_setTop' g h.top] at hend
  obtain ⟨g₀, hg0⟩ := Option.isSome_iff_exists.mp h.top
  obtain ⟨r, hr⟩ := State.topJava?_eq_some.mp hg0
  have hr' : (({ T with heap := t.heap, slotsUsed := t.slotsUsed } : State).setVm t.vm).frames = .java g₀ :: r := hr
  have e3 : t = ({ (T.calling g mk a).setFrames t.frames with heap := t.heap, slotsUsed := t.slotsUsed } : State).setVm t.vm := by
    have h9 : t = ({ t with vm := (T.calling g mk a).vm } : State).setVm t.vm := rfl
    rw [hsm.1] at h9
    exact h9
  refine ⟨o, t, _, L, tx_stand X hW hsm, hL, rfl, rfl, hq, ?_⟩
  cases o with
  | returned v =>
    obtain ⟨c₂, i₂, len₂, hc₂, hd₂, hf₂⟩ := hend
    have hcc : c₂ = c := by
      have h1 : t.code? g.method = T.code? g.method := by rw [State.code?_eq, State.code?_eq, hW'.alike.method?]
      exact Option.some.inj (hc₂.symm.trans (h1.trans h.code))
    subst hcc
    have hlen : len₂ = len := by rw [hdg] at hd₂; cases hd₂; rfl
    subst hlen
    refine Or.inl ⟨v, rfl, ?_⟩
    have hs₂ : t = (({ T with heap := t.heap, slotsUsed := t.slotsUsed } : State).setVm t.vm).setTop { g with pc := g.pc + len₂, stack := v.toList ++ g.stack } := by
      refine e3.trans ?_
      rw [hf₂, State.calling_eq h.top, State.setFrames_setFrames, State.setTop_of_frames _ hr', hr]
      rfl
    rw [← hs₂]
    exact hsteps
  | threw q =>
    have hf₂ : t.frames = .throwing q :: .java g :: T.frames.tail := hend
    refine Or.inr ⟨q, rfl, ?_⟩
    have hs₂ : t = ((({ T with heap := t.heap, slotsUsed := t.slotsUsed } : State).setVm t.vm).setTop g).pushFrame (.throwing q) := by
      refine e3.trans ?_
      rw [hf₂, State.calling_eq h.top, State.setFrames_setFrames, State.pushFrame, State.frames_setTop _ hr', State.setTop_of_frames _ hr', State.setFrames_setFrames, hr]
      rfl
    rw [← hs₂]
    exact hsteps
end TXA

section TXB
variable {p : Program} {l : Launch} {e : Env} {R : Room} {s : State} {m : MethodId} {args : Array Value} {below : List Frame} {meth : Method} {c : Code} {H : Heap} {locs : List Loc} {cells slots : Nat} {Q : State → Prop}
/-- the method's frame g, with q thrown over it -/
def tx_W (p : Program) (l : Launch) (e : Env) (R : Room) (s : State) (m : MethodId) (args : Array Value) (below : List Frame) (meth : Method) (c : Code) (H : Heap) (locs : List Loc) (cells slots : Nat) (Q : State → Prop) (g : JFrame) (q : Addr) : Prop :=
  ∀ T : State, T.heap = H → Stand p l e R s m args below meth c T locs cells slots → ∃ t, Steps p.tables e below ((T.setTop g).pushFrame (.throwing q)) t ∧ Q t
theorem tx_widen {g : JFrame} {q : Addr} {k n : Nat} (h1 : cells ≤ k) (h2 : slots ≤ n) (kk : tx_W p l e R s m args below meth c H locs k n Q g q) : tx_W p l e R s m args below meth c H locs cells slots Q g q := fun T hT X => kk T hT (stand_widen X h1 h2)
/-- a call and its two roads -/
def tx_Run (p : Program) (l : Launch) (e : Env) (R : Room) (s : State) (m : MethodId) (args : Array Value) (below : List Frame) (meth : Method) (c : Code) (H : Heap) (locs : List Loc) (cells slots mc ms : Nat) (g : JFrame) (rest : List Value) (Qa : State → Outcome → State → Prop) (free : Addr → Prop) : Prop :=
  ∀ T : State, T.heap = H → Stand p l e R s m args below meth c T locs cells slots → ∃ (o : Outcome) (st t T' : State) (L : List Loc), st.heap = H ∧ s.vm.Alike st.vm ∧ Stand p l e R s m args below meth c T' (locs ++ L) (cells + mc) (slots + ms) ∧ (∀ q ∈ L, free q.base) ∧ T'.heap = t.heap ∧ T'.vm = t.vm ∧ Qa st o t ∧
    ((∃ v, o = .returned v ∧ ∀ tg, Steps p.tables e below (T'.setTop { g with pc := g.pc + 3, stack := v.toList ++ rest }) tg → Steps p.tables e below (T.setTop g) tg) ∨
     (∃ q, o = .threw q ∧ Steps p.tables e below (T.setTop g) ((T'.setTop { g with stack := rest }).pushFrame (.throwing q))))
variable {y : MethodName} {bytes cc : ByteArray} {maxL nL mc ms n index : Nat} {ret : Option FieldType} {ws : List Cond} {rm : Room} {Pc : Array Value → State → Prop} {Qc : Array Value → State → Outcome → State → Prop} {free : Addr → Prop} {Ts : List Cond} {own C : String} {b : Addr} {As rest : List Value} {g : JFrame}
theorem tx_runV (S : CallFix p m c cc nL s args Ts own) (hM : tx_Met l y ws rm Pc Qc mc ms free) (cw : CallW R s args own C index y bytes maxL ret ws rm mc ms n) (hp : PreV s H C b Pc As) (k : Nat) (hlk : k + (maxL + 11) + rm.locals ≤ R.locals)
    (hg : g.method = m) (hn : As.length = n) (hsize : g.locals.size = nL) (hstack : g.stack = As.reverse ++ .ref b :: rest) (hW : 2 * g.monitorRoom + (rest.map fun v => v.category).sum ≤ k) (hdg : decode cc g.pc = .ok (.invokevirtual index, 3)) (hf : cells + mc ≤ R.cells ∧ slots + ms ≤ R.slots) :
    tx_Run p l e R s m args below meth c H locs cells slots mc ms g rest (Qc (Value.ref b :: As).toArray) free := by
  obtain ⟨⟨hrc, hrs, hfr, -, hws, hcw, hcode, hini, hy, hlen, hl⟩, hin, hse⟩ := cw
  obtain ⟨hx, hb, hml, ho, -⟩ := S
  obtain ⟨hbl, ⟨cellB, hcB, hoB, hclB⟩, hPc⟩ := hp
  intro T hT X
  obtain ⟨mk, methM, hnamed, hmethM, hstM, habM⟩ := Cond.instanceMethod_spec hin
  obtain ⟨methM', cM, hmethM', -, -, -, -, -, -, hsigM⟩ := Cond.code_spec hnamed hcode
  cases hmethM.symm.trans hmethM'
  obtain ⟨c2, r2, m2, q1, q2, q3, q4, kP, hkP, hkPi⟩ := Cond.selects_spec hse
  cases hclB.symm.trans q1
  cases (State.methodFound?_of_named hnamed hy).symm.trans q2
  cases hnamed.symm.trans q3
  have hselP : selectMethod e.platform s.vm cellB.cls mk = .method mk := by rw [Launch.admits_selectMethod X.admits]; exact q4
  obtain ⟨vm₁, X₁, hstep₁⟩ := X.invokevirtual hx ho hl hnamed hmethM hstM hkP hkPi hy (a := b) (cell := cellB) (by rw [hT]; exact hcB)
    (fun z h => by rw [h] at hoB; cases hoB) hselP hmethM habM hkP hkPi (g := g) hg (argsL := As) (rest := rest) (hn.trans (hlen _ hsigM)) hstack (by rw [hb]; exact hdg)
  have hnT := X₁.named hnamed
  have hwT : ∀ w ∈ ws, w.before (Value.ref b :: As).toArray (T.setVm vm₁) = true := fun w hw => hws w hw _ _ X₁.warmed
  obtain ⟨methY, cY, hmY, hcY, -, hlY, -, -, -, -⟩ := Cond.code_spec hnT (hwT _ hcw)
  obtain ⟨kY, hkY, -⟩ := className_of_methodNamed hnT
  have hiniT : (Cond.initialized y.cls).before (Value.ref b :: As).toArray (T.setVm vm₁) = true := word_at X₁.warmed (Or.inl (by first | rfl | simp [Cond.onTables, Cond.keeps, Cond.steady])) hini
  have hinitY : kY.init = .initialized := Cond.initialized_spec (findClass_of_methodNamed hnT) hkY hiniT
  obtain ⟨o, t, T', L, X', hL, e1, e2, hq, hsteps⟩ := tx_back X₁ hM hnT hmY hcY hkY hinitY (g := { g with stack := rest }) hg (hsize.trans hml.symm) (by rw [hb]; exact hdg) (atoms_intro hwT) hfr
    (by rw [hlY]; exact Nat.le_trans (Nat.add_le_add_right (Nat.add_le_add_right hW _) _) hlk) (by rw [hrc]; exact hf.1) (by rw [hrs]; exact hf.2) (hbl _ _ _ _ (hPc (T.setVm vm₁) hT X₁.warmed))
  refine ⟨o, (T.setVm vm₁).calling { g with stack := rest } mk (Value.ref b :: As).toArray, t, T', L, hT, X₁.warmed.alike, X', hL, e1, e2, hq, ?_⟩
  rcases hsteps with ⟨v, rfl, st⟩ | ⟨q, rfl, st⟩
  · exact Or.inl ⟨v, rfl, fun tg h => hstep₁ _ fun acts => by rw [doInvoke_state]; exact st.trans h⟩
  · exact Or.inr ⟨q, rfl, hstep₁ _ fun acts => by rw [doInvoke_state]; exact st⟩
theorem tx_runS (S : CallFix p m c cc nL s args Ts own) (hM : tx_Met l y ws rm Pc Qc mc ms free) (cw : CallB R s args own index y bytes maxL ret ws rm mc ms n ∧ (Cond.static y).before args s = true) (hp : PreS s H Pc As) (k : Nat) (hlk : k + (maxL + 11) + rm.locals ≤ R.locals)
    (hg : g.method = m) (hn : As.length = n) (hsize : g.locals.size = nL) (hstack : g.stack = As.reverse ++ rest) (hW : 2 * g.monitorRoom + (rest.map fun v => v.category).sum ≤ k) (hdg : decode cc g.pc = .ok (.invokestatic index, 3)) (hf : cells + mc ≤ R.cells ∧ slots + ms ≤ R.slots) :
    tx_Run p l e R s m args below meth c H locs cells slots mc ms g rest (Qc As.toArray) free := by
  obtain ⟨⟨hrc, hrs, hfr, -, hws, hcw, hcode, hini, hy, hlen, hl⟩, hstt⟩ := cw
  obtain ⟨hx, hb, hml, ho, -⟩ := S
  intro T hT X
  obtain ⟨mk, hnamed⟩ := Cond.code_named hcode
  obtain ⟨methM, cM, hmethM, -, -, -, -, -, -, hsigM⟩ := Cond.code_spec hnamed hcode
  have hstatic : methM.isStatic = true := Cond.static_spec hnamed hmethM hstt
  obtain ⟨kP, hkP, -⟩ := className_of_methodNamed hnamed
  have hinitP : kP.init = .initialized := Cond.initialized_spec (findClass_of_methodNamed hnamed) hkP hini
  obtain ⟨vm₁, X₁, hstep₁⟩ := X.invokestatic hx ho hl hnamed hmethM hstatic hkP hinitP hy (g := g) hg (argsL := As) (rest := rest) (hn.trans (hlen _ hsigM)) hstack (by rw [hb]; exact hdg)
  have hnT := X₁.named hnamed
  have hwT : ∀ w ∈ ws, w.before As.toArray (T.setVm vm₁) = true := fun w hw => hws w hw _ _ X₁.warmed
  obtain ⟨methY, cY, hmY, hcY, -, hlY, -, -, -, -⟩ := Cond.code_spec hnT (hwT _ hcw)
  obtain ⟨kY, hkY, -⟩ := className_of_methodNamed hnT
  have hiniT : (Cond.initialized y.cls).before As.toArray (T.setVm vm₁) = true := word_at X₁.warmed (Or.inl (by first | rfl | simp [Cond.onTables, Cond.keeps, Cond.steady])) hini
  have hinitY : kY.init = .initialized := Cond.initialized_spec (findClass_of_methodNamed hnT) hkY hiniT
  obtain ⟨o, t, T', L, X', hL, e1, e2, hq, hsteps⟩ := tx_back X₁ hM hnT hmY hcY hkY hinitY (g := { g with stack := rest }) hg (hsize.trans hml.symm) (by rw [hb]; exact hdg) (atoms_intro hwT) hfr
    (by rw [hlY]; exact Nat.le_trans (Nat.add_le_add_right (Nat.add_le_add_right hW _) _) hlk) (by rw [hrc]; exact hf.1) (by rw [hrs]; exact hf.2) (hp.1 _ _ _ _ (hp.2 (T.setVm vm₁) hT X₁.warmed))
  refine ⟨o, (T.setVm vm₁).calling { g with stack := rest } mk As.toArray, t, T', L, hT, X₁.warmed.alike, X', hL, e1, e2, hq, ?_⟩
  rcases hsteps with ⟨v, rfl, st⟩ | ⟨q, rfl, st⟩
  · exact Or.inl ⟨v, rfl, fun tg h => hstep₁ _ fun acts => by rw [doInvoke_state]; exact st.trans h⟩
  · exact Or.inr ⟨q, rfl, hstep₁ _ fun acts => by rw [doInvoke_state]; exact st⟩
/-- the same of a method with an exception table -/
theorem tx_runH {hh : List (Nat × Nat × Nat × Nat)} {ws' : List Cond} (S : CallFix p m c cc nL s args Ts own) (hM : tx_Met l y ws rm Pc Qc mc ms free) (hw : ws = Cond.codeWith y bytes maxL ret hh :: ws') (hws : ∀ w ∈ ws, ∀ (a' : Array Value) (U : State), s.WarmedH U.vm → w.before a' U = true) (hrc : rm.cells = mc) (hrs : rm.slots = ms) (hfr : rm.frames + 1 ≤ R.frames)
    (hini : (Cond.initialized y.cls).before args s = true) (hl : (Cond.methodLink own index y).before args s = true) (hstt : (Cond.static y).before args s = true) (hd : y.cls ≠ "java/lang/invoke/MethodHandle" ∧ y.cls ≠ "java/lang/invoke/VarHandle" ∧ (parseMethodDescriptor y.desc).map (fun d => d.parameters.length) = some n) (hp : PreS s H Pc As) (k : Nat) (hlk : k + (maxL + 11) + rm.locals ≤ R.locals)
    (hg : g.method = m) (hn : As.length = n) (hsize : g.locals.size = nL) (hstack : g.stack = As.reverse ++ rest) (hW : 2 * g.monitorRoom + (rest.map fun v => v.category).sum ≤ k) (hdg : decode cc g.pc = .ok (.invokestatic index, 3)) (hf : cells + mc ≤ R.cells ∧ slots + ms ≤ R.slots) :
    tx_Run p l e R s m args below meth c H locs cells slots mc ms g rest (Qc As.toArray) free := by
  have hcw : Cond.codeWith y bytes maxL ret hh ∈ ws := by rw [hw]; exact List.mem_cons_self
  have hcode : (Cond.codeWith y bytes maxL ret hh).before args s = true := hws _ hcw _ _ (State.WarmedH.refl s)
  obtain ⟨hx, hb, hml, ho, -⟩ := S
  intro T hT X
  obtain ⟨mk, methM, cM, hnamed, hmethM, -, -, -, -, -, -, hsigM⟩ := Cond.codeWith_spec hcode
  have hstatic : methM.isStatic = true := Cond.static_spec hnamed hmethM hstt
  obtain ⟨kP, hkP, -⟩ := className_of_methodNamed hnamed
  have hinitP : kP.init = .initialized := Cond.initialized_spec (findClass_of_methodNamed hnamed) hkP hini
  have hlen : As.length = methM.sig.parameters.length := by
    have h2 := hd.2.2
    rw [hsigM] at h2
    exact hn.trans (Option.some.inj h2).symm
  obtain ⟨vm₁, X₁, hstep₁⟩ := X.invokestatic hx ho hl hnamed hmethM hstatic hkP hinitP ⟨hd.1, hd.2.1⟩ (g := g) hg (argsL := As) (rest := rest) hlen hstack (by rw [hb]; exact hdg)
  have hnT := X₁.named hnamed
  have hwT : ∀ w ∈ ws, w.before As.toArray (T.setVm vm₁) = true := fun w hw => hws w hw _ _ X₁.warmed
  obtain ⟨mk2, methY, cY, hn2, hmY, hcY, -, hlY, -, -, -, -⟩ := Cond.codeWith_spec (hwT _ hcw)
  cases hnT.symm.trans hn2
  obtain ⟨kY, hkY, -⟩ := className_of_methodNamed hnT
  have hiniT : (Cond.initialized y.cls).before As.toArray (T.setVm vm₁) = true := word_at X₁.warmed (Or.inl (by first | rfl | simp [Cond.onTables, Cond.keeps, Cond.steady])) hini
  have hinitY : kY.init = .initialized := Cond.initialized_spec (findClass_of_methodNamed hnT) hkY hiniT
  obtain ⟨o, t, T', L, X', hL, e1, e2, hq, hsteps⟩ := tx_back X₁ hM hnT hmY hcY hkY hinitY (g := { g with stack := rest }) hg (hsize.trans hml.symm) (by rw [hb]; exact hdg) (atoms_intro hwT) hfr
    (by rw [hlY]; exact Nat.le_trans (Nat.add_le_add_right (Nat.add_le_add_right hW _) _) hlk) (by rw [hrc]; exact hf.1) (by rw [hrs]; exact hf.2) (hp.1 _ _ _ _ (hp.2 (T.setVm vm₁) hT X₁.warmed))
  refine ⟨o, (T.setVm vm₁).calling { g with stack := rest } mk As.toArray, t, T', L, hT, X₁.warmed.alike, X', hL, e1, e2, hq, ?_⟩
  rcases hsteps with ⟨v, rfl, st⟩ | ⟨q, rfl, st⟩
  · exact Or.inl ⟨v, rfl, fun tg h => hstep₁ _ fun acts => by rw [doInvoke_state]; exact st.trans h⟩
  · exact Or.inr ⟨q, rfl, hstep₁ _ fun acts => by rw [doInvoke_state]; exact st⟩
end TXB
section TXC
variable {p : Program} {l : Launch} {e : Env} {R : Room} {s : State} {m : MethodId} {args : Array Value} {below : List Frame} {meth : Method} {c : Code} {H : Heap} {locs : List Loc} {cells slots : Nat} {Q : State → Prop}
variable {mc ms : Nat} {free : Addr → Prop} {A0 A1 : Nat → Prop} {H0 : Heap} {a : Array Value} {pc : Nat} {ls : Array Slot} {st0 rest : List Value}
/-- both ends of a method: V says how the answer r lies on the stack -/
def tx_Q {ρ S : Type} (V : ρ → Option Value) (post : ρ → S → Prop) (px : String → S → Prop) (B : S → State → Prop) (A : Nat → Prop) : Array Value → State → Outcome → State → Prop := fun _ st o t =>
  ((∃ (r : ρ) (u : S), o = .returned (V r) ∧ post r u ∧ B u t) ∨ (∃ (q : Addr) (E : String) (ce : Cell) (u : S), o = .threw q ∧ px E u ∧ B u t ∧ t.heap[q]? = some ce ∧ ce.vm = .none ∧ st.vm.findClass E = some ce.cls)) ∧ va_F A st t
abbrev tx_i : Int32 → Option Value := fun r => some (.int r)
abbrev tx_l : Int64 → Option Value := fun r => some (.long r)
abbrev tx_v : Unit → Option Value := fun _ => none
theorem tx_qi {S : Type} {post : Int32 → S → Prop} {px : String → S → Prop} {B : S → State → Prop} {A : Nat → Prop} (o : Outcome) (t : State) (h : va_Qi post B A args s o t) : tx_Q tx_i post px B A args s o t := ⟨Or.inl h.1, h.2⟩
theorem tx_ql {S : Type} {post : Int64 → S → Prop} {px : String → S → Prop} {B : S → State → Prop} {A : Nat → Prop} (o : Outcome) (t : State) (h : va_Ql post B A args s o t) : tx_Q tx_l post px B A args s o t := ⟨Or.inl h.1, h.2⟩
theorem tx_qv {S : Type} {post : Unit → S → Prop} {px : String → S → Prop} {B : S → State → Prop} {A : Nat → Prop} (o : Outcome) (t : State) (h : va_Qv (post ()) B A args s o t) : tx_Q tx_v post px B A args s o t := ⟨Or.inl ⟨(), h.1⟩, h.2⟩
theorem tx_keep {st t T' : State} {L : List Loc} (h0 : st.heap = H) (e1 : T'.heap = t.heap) (hS : va_S A0 H0 H locs) (hA : ∀ q, q < H.size → A1 q → A0 q) (hf : ∀ q, free q → A0 q) (hL : ∀ q ∈ L, free q.base) (hF : va_F A1 st t) :
    H.size ≤ T'.heap.size ∧ (∀ q : Nat, q < H.size → ¬ A1 q → T'.heap[q]? = H[q]?) ∧ va_S A0 H0 T'.heap (locs ++ L) := by
  obtain ⟨hz, hk⟩ := hF
  rw [h0] at hz hk
  refine ⟨by rw [e1]; exact hz, fun q h1 h2 => by rw [e1]; exact hk q h1 h2, Nat.le_trans hS.1 (by rw [e1]; exact hz), fun q h1 h2 => ?_, fun z hz => (List.mem_append.mp hz).elim (hS.2.2 z) (fun h => hf _ (hL z h))⟩
  rw [e1, hk q (Nat.lt_of_lt_of_le h1 hS.1) (fun z => h2 (hA q (Nat.lt_of_lt_of_le h1 hS.1) z))]
  exact hS.2.1 q h1 h2
theorem tx_call {ρ S : Type} {V : ρ → Option Value} {post : ρ → S → Prop} {px : String → S → Prop} {B : S → State → Prop} (hr : tx_Run p l e R s m args below meth c H locs cells slots mc ms (F0 m pc ls st0) rest (tx_Q V post px B A1 a) free) (hS : va_S A0 H0 H locs) (hA : ∀ q, q < H.size → A1 q → A0 q) (hf : ∀ q, free q → A0 q)
    (kx : ∀ (E : String) (ce : Cell) (q9 : Addr) (u : S) (t : State) (H1 : Heap) (locs1 : List Loc), t.heap = H1 → s.vm.Alike t.vm → px E u → B u t → H.size ≤ H1.size → (∀ q : Nat, q < H.size → ¬ A1 q → H1[q]? = H[q]?) → va_S A0 H0 H1 locs1 → H1[q9]? = some ce → ce.vm = .none → s.vm.findClass E = some ce.cls → tx_W p l e R s m args below meth c H1 locs1 (cells + mc) (slots + ms) Q (F0 m pc ls rest) q9)
    (kk : ∀ (r : ρ) (u : S) (t : State) (H1 : Heap) (locs1 : List Loc), t.heap = H1 → s.vm.Alike t.vm → post r u → B u t → H.size ≤ H1.size → (∀ q : Nat, q < H.size → ¬ A1 q → H1[q]? = H[q]?) → va_S A0 H0 H1 locs1 → W p l e R s m args below meth c H1 locs1 (cells + mc) (slots + ms) Q (F0 m (pc + 3) ls ((V r).toList ++ rest))) : W p l e R s m args below meth c H locs cells slots Q (F0 m pc ls st0) := by
  intro T hT X
  obtain ⟨o, st, t, T', L, h0, hal, X', hL, e1, e2, ⟨hq, hF⟩, hst⟩ := hr T hT X
  obtain ⟨k1, k2, k3⟩ := tx_keep h0 e1 hS hA hf hL hF
  have hat : s.vm.Alike t.vm := by rw [← e2]; exact X'.warmed.alike
  rcases hq with ⟨r, u, rfl, hp, hb⟩ | ⟨q, E, ce, u, rfl, hp, hb, hce, hcv, hcl⟩
  · rcases hst with ⟨v, hv, st'⟩ | ⟨q, hv, st'⟩
    · cases hv
      obtain ⟨t2, a1, b1⟩ := kk r u t T'.heap (locs ++ L) e1.symm hat hp hb k1 k2 k3 T' rfl X'
      exact ⟨t2, st' t2 a1, b1⟩
    · cases hv
  · rcases hst with ⟨v, hv, st'⟩ | ⟨q', hv, st'⟩
    · cases hv
    · cases hv
      obtain ⟨t2, a1, b1⟩ := kx E ce q u t T'.heap (locs ++ L) e1.symm hat hp hb k1 k2 k3 (by rw [e1]; exact hce) hcv (by rw [← hal.findClass]; exact hcl) T' rfl X'
      exact ⟨t2, st'.trans a1, b1⟩
/-- what a body owes at its end -/
def tx_MQ (below : List Frame) (Qc : Array Value → State → Outcome → State → Prop) (a : Array Value) (s : State) (mc ms : Nat) (free : Addr → Prop) : State → Prop := fun t =>
  ∃ o, t.status = .running ∧ Ended t below o ∧ Qc a s o t ∧ tx_E s t free mc ms
theorem tx_ret {Q1 Qc : Array Value → State → Outcome → State → Prop} {g : JFrame} (hq : ∀ (o : Outcome) (t : State), Q1 args s o t → Qc args s o t) (k : W p l e R s m args below meth c H locs cells slots (MQ below Q1 args s mc ms free) g) : W p l e R s m args below meth c H locs cells slots (tx_MQ below Qc args s mc ms free) g := by
  intro T hT X
  obtain ⟨t, a1, o, b1, b2, b3, L, hF, hL⟩ := k T hT X
  exact ⟨t, a1, o, b1, b2, hq o t b3, hF.2.1, L, hF.2.2, hL⟩
/-- not caught here: it goes on to the caller -/
theorem tx_out {Qc : Array Value → State → Outcome → State → Prop} {q : Addr} (hout : ∀ x ∈ c.exceptionTable.toList, covers x pc = false) (hlocks : meth.locks = false)
    (hx : ∀ t : State, t.heap = H → s.vm.Alike t.vm → Qc args s (.threw q) t) (hf : ∀ z ∈ locs, free z.base) (hc : cells ≤ mc) (hs : slots ≤ ms) :
    tx_W p l e R s m args below meth c H locs cells slots (tx_MQ below Qc args s mc ms free) (F0 m pc ls rest) q := by
  intro T hT X
  have X := stand_widen X hc hs
  obtain ⟨st, hrun, hend, hW, hsm⟩ := X.leaveThrown q (g := F0 m pc ls rest) rfl rfl rfl hout hlocks
  exact ⟨_, st, .threw q, hrun, hend, hx _ hT hW.alike, hW, locs, hsm, hf⟩
/-- caught by the row x of this method's table; the rows ahead don't take it -/
theorem tx_catch {own name E : String} {ce : Cell} {q : Addr} (hown : s.vm.findClass own = some m.cls) (pre : List ExceptionTableEntry) (x : ExceptionTableEntry) (suf : List ExceptionTableEntry) (hsplit : c.exceptionTable.toList = pre ++ x :: suf)
    (hpass : ∀ z ∈ pre, covers z pc = false ∨ (z.catchType ≠ 0 ∧ ∃ nm : String, (Cond.classLink own z.catchType nm).before args s = true ∧ va_Nc E nm s)) (hx : covers x pc = true) (h0 : x.catchType ≠ 0)
    (hlink : (Cond.classLink own x.catchType name).before args s = true) (hcast : (Cond.castable E name).before args s = true) (hcell : H[q]? = some ce) (hv : ce.vm = .none) (hcl : s.vm.findClass E = some ce.cls)
    (kk : W p l e R s m args below meth c H locs cells slots Q (F0 m x.handlerPc ls [.ref q])) : tx_W p l e R s m args below meth c H locs cells slots Q (F0 m pc ls rest) q := by
  intro T hT X
  have hpl : e.platform.magicAccessors = ({} : Platform).magicAccessors := by rw [X.admits.platform]
  obtain ⟨c3, c4, hc3, hc4, hasg⟩ := Cond.castable_spec hcast
  have h34 : c3 = ce.cls := Option.some.inj (hc3.symm.trans hcl)
  rw [h34] at hasg
  obtain ⟨c5, hc5, hcl5⟩ := Cond.classLink_spec hown hlink e.platform hpl
  have h45 : c4 = c5 := Option.some.inj (hc4.symm.trans hc5)
  rw [← h45] at hcl5
  obtain ⟨k9, h9, -⟩ := Vm.findClass_spec hcl
  obtain ⟨vm', X', st⟩ := X.caughtThrough q (g := F0 m pc ls rest) rfl (by rw [hT]; exact hcell) (by rw [hv]; rfl) ⟨k9, h9⟩ pre x suf hsplit
    (fun z hz => (hpass z hz).imp id (fun ⟨hz0, nm, hl1, a8, b8, h1, h2, h3⟩ => by
      obtain ⟨c6, hc6, hcl6⟩ := Cond.classLink_spec hown hl1 e.platform hpl
      have e1 : a8 = ce.cls := Option.some.inj (h1.symm.trans hcl)
      have e2 : b8 = c6 := Option.some.inj (h2.symm.trans hc6)
      rw [e1, e2] at h3
      exact ⟨hz0, c6, hcl6, h3⟩)) hx (Or.inr ⟨h0, c4, hcl5, hasg⟩)
  obtain ⟨t, a1, b1⟩ := kk (T.setVm vm') hT X'
  refine ⟨t, ?_, b1⟩
  rw [X.pushThrowing_eq]
  exact st t a1
theorem tx_ofW {y : MethodName} {ws ws' : List Cond} {rm : Room} {Pc : Array Value → State → Prop} {Qc : Array Value → State → Outcome → State → Prop} {cc : ByteArray} {maxL : Nat} {ret : Option FieldType} (hy : plainName y.cls = true) (hw : ws = Cond.code y cc maxL ret :: ws')
    (body : ∀ p e s m args below meth c s₁, BodyLoose p l y (headSpec ws rm) cc maxL ret e s m args below meth c s₁ → c.maxLocals = maxL → (∀ x ∈ c.exceptionTable.toList, False) → Pc args s →
      W p l e (headSpec ws rm).room s m args below meth c s.heap [] 0 0 (tx_MQ below Qc args s mc ms free) (entryFrame m args maxL)) : tx_Met l y ws rm Pc Qc mc ms free := by
  refine MetFree.of_bodyS (code := cc) (maxLocals := maxL) (ret := ret) hy ?_ ?_
  · intro args s m h hn
    obtain ⟨meth, c, h1, h2, h3, h4, h5, h6, -, -⟩ := Cond.code_spec hn (atoms_spec (ws := ws) h _ (by rw [hw]; exact List.mem_cons_self))
    exact ⟨meth, c, h1, h2, h3, h4, h5, h6⟩
  · intro p e s m args below meth c s₁ B hml hP _
    have hh0 : s₁.heap = s.heap := by rw [B.state]; rfl
    have X := Stand.of_body B
    have hT : ∀ x ∈ c.exceptionTable.toList, False := by
      obtain ⟨meth', c', h1, h2, -, -, -, -, hemp, -⟩ := Cond.code_spec B.named (atoms_spec (ws := ws) B.pre _ (by rw [hw]; exact List.mem_cons_self))
      have em : meth' = meth := Option.some.inj (h1.symm.trans B.method)
      rw [em] at h2
      have ec : c' = c := Option.some.inj (h2.symm.trans X.code)
      rw [ec] at hemp
      have hz : c.exceptionTable.toList = [] := List.eq_nil_of_length_eq_zero (by simpa [Array.isEmpty] using hemp)
      intro x hx
      rw [hz] at hx
      cases hx
    obtain ⟨t, a1, o, b1, b2, b3, b4⟩ := body p e s m args below meth c s₁ B hml hT hP s₁ hh0 X
    exact ⟨t, o, a1, b1, b2, b3, b4⟩
theorem tx_ofH {y : MethodName} {ws ws' : List Cond} {rm : Room} {Pc : Array Value → State → Prop} {Qc : Array Value → State → Outcome → State → Prop} {cc : ByteArray} {maxL : Nat} {ret : Option FieldType} {hh : List (Nat × Nat × Nat × Nat)} (hy : plainName y.cls = true) (hw : ws = Cond.codeWith y cc maxL ret hh :: ws')
    (body : ∀ p e s m args below meth c s₁, BodyLoose p l y (headSpec ws rm) cc maxL ret e s m args below meth c s₁ → c.maxLocals = maxL → c.exceptionTable.toList = tableOf hh → Pc args s →
      W p l e (headSpec ws rm).room s m args below meth c s.heap [] 0 0 (tx_MQ below Qc args s mc ms free) (entryFrame m args maxL)) : tx_Met l y ws rm Pc Qc mc ms free := by
  refine MetFree.of_bodyS (code := cc) (maxLocals := maxL) (ret := ret) hy ?_ ?_
  · intro args s m h hn
    obtain ⟨m9, meth, c, hn9, h1, h2, h3, h4, -, h5, h6, -⟩ := Cond.codeWith_spec (atoms_spec (ws := ws) h _ (by rw [hw]; exact List.mem_cons_self))
    have em : m9 = m := Option.some.inj (hn9.symm.trans hn)
    rw [em] at h1
    exact ⟨meth, c, h1, h2, h3, h4, h5, h6⟩
  · intro p e s m args below meth c s₁ B hml hP _
    have hh0 : s₁.heap = s.heap := by rw [B.state]; rfl
    have X := Stand.of_body B
    have hT : c.exceptionTable.toList = tableOf hh := by
      obtain ⟨m9, meth', c', hn9, h1, h2, -, -, htab, -⟩ := Cond.codeWith_spec (atoms_spec (ws := ws) B.pre _ (by rw [hw]; exact List.mem_cons_self))
      have em : m9 = m := Option.some.inj (hn9.symm.trans B.named)
      rw [em] at h1
      have em : meth' = meth := Option.some.inj (h1.symm.trans B.method)
      rw [em] at h2
      have ec : c' = c := Option.some.inj (h2.symm.trans X.code)
      rw [ec] at htab
      rw [← htab, table_eq]
    obtain ⟨t, a1, o, b1, b2, b3, b4⟩ := body p e s m args below meth c s₁ B hml hT hP s₁ hh0 X
    exact ⟨t, o, a1, b1, b2, b3, b4⟩
/-- a contract that always returns, in the other form -/
theorem tx_of {y : MethodName} {ws : List Cond} {rm : Room} {Pc : Array Value → State → Prop} {Qc Q2 : Array Value → State → Outcome → State → Prop} (hM : Met l y ws rm Pc Qc mc ms free) (hq : ∀ a st o t, Qc a st o t → Q2 a st o t) : tx_Met l y ws rm Pc Q2 mc ms free := by
  intro p e ha hc hk s m args below hf happ hP hK
  obtain ⟨n, o, h1, h2, h3, h4, L, hF, hL⟩ := hM p e ha hc hk s m args below hf happ hP hK
  exact ⟨n, o, h1, h2, h3, hq _ _ _ _ h4, hF.2.1, L, hF.2.2, hL⟩
end TXC
/-- one of three addresses -/
def tx_3 (a b c : Nat) (j : Nat) : Option Value := some (.ref (if j = 0 then a else if j = 1 then b else c))
theorem tx_rm {m : MethodId} {pc : Nat} {ls : Array Slot} {rest st : List Value} {k : Nat} (h : (st.map fun v => v.category).sum ≤ k) : 2 * (F0 m pc ls rest).monitorRoom + (st.map fun v => v.category).sum ≤ k := by
  show 2 * 0 + _ ≤ k
  omega
section TXD
variable {p : Program} {l : Launch} {e : Env} {R : Room} {s : State} {m : MethodId} {args : Array Value} {below : List Frame} {meth : Method} {c : Code} {H : Heap} {locs : List Loc} {cells slots : Nat} {Q : State → Prop}
variable {mc ms : Nat} {free : Addr → Prop} {pc : Nat} {ls : Array Slot} {rest : List Value}
/-- a word of a throw: in the tables and good, or of those with rows of their own, or one of the heap's -/
def oy (w : Cond) : Bool := (decide (w ∈ lw_tbl) && ((goodWord w && w.onTables) || zz_k w)) || decide (w ∈ th)
/-- the invocation as if it began in the heap as it is now -/
theorem tx_base {T : State} (X : Stand p l e R s m args below meth c T locs cells slots) {R' : Room} (hf : R'.frames ≤ R.frames) (hl : R'.locals ≤ R.locals) (hc : cells + R'.cells ≤ R.cells) (hs : slots + R'.slots ≤ R.slots) :
    Stand p l e R' ((T.setVm s.vm).setFrames (.invoking m args :: below)) m args below meth c T [] 0 0 := by
  have htop : (T.setVm s.vm).topJava?.isSome := X.here.top
  obtain ⟨g₀, hg0⟩ := Option.isSome_iff_exists.mp htop
  obtain ⟨r, hr⟩ := State.topJava?_eq_some.mp hg0
  have hF : ((T.setVm s.vm).setFrames (.invoking m args :: below)).frames = .invoking m args :: below := State.frames_setFrames _ (State.cur_lt_of_top htop)
  have e1 : e.platform.stackLimits (T.setVm s.vm).me = e.platform.stackLimits s.me := X.limits
  have e2 : (T.setVm s.vm).me.stackBytes = s.me.stackBytes := X.bytes
  have e3 : ((T.setVm s.vm).setFrames (.invoking m args :: below)).localsInUse = s.localsInUse := by
    rw [State.localsInUse_invoking hF (meth := meth) (c := c) X.method X.code, State.localsInUse_invoking X.frames X.method X.code]
  have hroom : ((T.setVm s.vm).setFrames (.invoking m args :: below)).hasRoom e.platform R' = true := by
    have h := X.room
    have q1 := X.heapSize
    have q2 := X.used
    simp only [State.hasRoom, Bool.and_eq_true, decide_eq_true_eq] at h ⊢
    obtain ⟨⟨⟨⟨h1, h2, h3, h4, h5, h6⟩, h7⟩, h8⟩, h9⟩ := h
    rw [X.frames, List.length_cons] at h2 h3
    simp only [hF, e3, List.length_cons, State.stackLimits_setFrames, State.stackBytes_setFrames, e1, e2]
    refine ⟨⟨⟨⟨by omega, by omega, by omega, by omega, by omega, h6⟩, ?_⟩, ?_⟩, X.book⟩
    · show T.heap.size + R'.cells ≤ e.platform.maxCells
      omega
    · show T.slotsUsed + R'.slots ≤ e.platform.maxSlots
      omega
  refine ⟨X.admits, X.cas, X.clock, hF, hroom, X.hears, X.method, X.code, X.here, X.tail, X.warmed, ?_, ?_, ?_, Nat.le_refl _, Nat.le_refl _, ?_, ?_, fun a c9 h9 => ⟨c9, h9, rfl, rfl, fun _ _ => rfl⟩⟩
  · rw [State.stackLimits_setFrames]; rfl
  · rw [State.stackBytes_setFrames]; rfl
  · obtain ⟨t, ht, -⟩ := State.frames_cons hr
    show T.setVm s.vm = { ((T.setVm s.vm).setFrames (.invoking m args :: below)).setFrames (T.setVm s.vm).frames with heap := T.heap, slotsUsed := T.slotsUsed }
    rw [State.setFrames_setFrames, State.setFrames_self ht]
    rfl
  · show T.slotsUsed = T.slotsUsed + ((T.heap.toList.drop T.heap.size).map (·.slots.size)).sum
    rw [List.drop_eq_nil_of_le (Nat.le_of_eq Array.length_toList)]
    rfl
  · show ((T.heap.toList.drop T.heap.size).map (·.slots.size)).sum ≤ 0
    rw [List.drop_eq_nil_of_le (Nat.le_of_eq Array.length_toList)]
    exact Nat.le_refl _
theorem tx_atoms {own cls : String} {names : List String} {ic : Nat} {s' : State} (hoa : ∀ w ∈ Bundle.ownAtoms own ic cls names, oy w = true) (hq : ∀ w ∈ wz, w.before args s = true) (hZ : zq s) (hv : s.vm = s'.vm) (hth : ∀ w ∈ th, w.before args s' = true) : ∀ w ∈ Bundle.ownAtoms own ic cls names, w.before args s' = true := by
  intro w hw
  have h := hoa w hw
  simp only [oy, Bool.or_eq_true, Bool.and_eq_true, decide_eq_true_eq] at h
  rcases h with ⟨hm, ⟨hg, ht⟩ | hk⟩ | h
  · exact va_tabs ht hv (hq w (List.mem_filter.mpr ⟨hm, hg⟩))
  · rcases List.mem_append.mp hm with h1 | h1
    · obtain ⟨q, -, rfl⟩ := List.mem_map.mp h1
      cases hk
    · exact va_tabs (zz_tab hk) hv (hZ.1 w (List.mem_filter.mpr ⟨h1, hk⟩))
  · exact hth w h
/-- a heap that changed at no old cell -/
theorem tx_same {U : State} {k n : Nat} (h : s.sameButNew ({ U with vm := s.vm } : State) [] k n) : s.heap.size ≤ U.heap.size ∧ ∀ q : Nat, q < s.heap.size → U.heap[q]? = s.heap[q]? := by
  obtain ⟨-, h2, -, -, -, h6⟩ := h
  refine ⟨h2, fun q hq => ?_⟩
  obtain ⟨c9, e1, e2, e3, e4⟩ := h6 q _ (Array.getElem?_eq_getElem hq)
  have hs : c9.slots = (s.heap[q]).slots := Array.ext_getElem? fun i => e4 i (fun hm => nomatch hm)
  have h9 : c9 = s.heap[q] := by
    rw [hs] at e2
    exact e2
  have e5 : U.heap[q]? = some c9 := e1
  rw [e5, h9, Array.getElem?_eq_getElem hq]
/-- 'throw new E("text")': new; dup; ldc; invokespecial; athrow -/
theorem tx_throw {cc : ByteArray} {Qc : Array Value → State → Outcome → State → Prop} (hexec : p.tables.exec = Jvm.exec) (hb : c.code = cc) (hl : l.stackTraces = false) {own cls text : String} {names : List String} {ik is ic sa : Nat} {A : Nat → Prop}
    (hown : s.vm.findClass own = some m.cls) (hcls : Bundle.fit cls = true) (hnames : ∀ n ∈ names, Bundle.fit n = true) (hoa : ∀ w ∈ Bundle.ownAtoms own ic cls names, oy w = true)
    (hq : ∀ w ∈ wz, w.before args s = true) (hk : Cond.classLink own ik cls ∈ wz) (hi : Cond.initialized cls ∈ wz) (hZ : zq s) (hstr : vk_R own is text sa s) (hz : tz A s) (hS : va_S A s.heap H locs) (hsize : ls.size = c.maxLocals)
    (d0 : decode cc pc = .ok (.new ik, 3)) (d3 : decode cc (pc + 3) = .ok (.dup, 1)) (d4 : decode cc (pc + 4) = .ok (.ldc is, 2)) (d6 : decode cc (pc + 6) = .ok (.invokespecial ic, 3)) (d9 : decode cc (pc + 9) = .ok (.athrow, 1))
    (hTab : ∀ x ∈ c.exceptionTable.toList, False) (hlocks : meth.locks = false)
    (hRf : names.length + 3 < R.frames) (hRl : (rest.map fun v => v.category).sum + (13 * (names.length + 1) + 43) ≤ R.locals) (hRc : cells + 1 ≤ R.cells) (hRs : slots + 6 ≤ R.slots)
    (hx : ∀ (t : State) (ce : Cell) (q : Addr), s.vm.Alike t.vm → H.size ≤ t.heap.size → (∀ z : Nat, z < H.size → t.heap[z]? = H[z]?) → t.heap[q]? = some ce → ce.vm = .none → s.vm.findClass cls = some ce.cls → Qc args s (.threw q) t)
    (hf : ∀ z ∈ locs, free z.base) (hc : cells + 1 ≤ mc) (hs : slots + 6 ≤ ms) :
    W p l e R s m args below meth c H locs cells slots (tx_MQ below Qc args s mc ms free) (F0 m pc ls rest) := by
  intro T hT X
  have htr : e.platform.stackTraces = false := (show e.platform.stackTraces = l.stackTraces by rw [X.admits.platform]).trans hl
  have Y := tx_base X (R' := { frames := R.frames, locals := R.locals, cells := 1, slots := 6 }) (Nat.le_refl _) (Nat.le_refl _) hRc hRs
  have hvm : s.vm = ((T.setVm s.vm).setFrames (.invoking m args :: below)).vm := rfl
  have hhp : ((T.setVm s.vm).setFrames (.invoking m args :: below)).heap = H := hT
  obtain ⟨s', hA⟩ : ∃ z, z = (T.setVm s.vm).setFrames (.invoking m args :: below) := ⟨_, rfl⟩
  rw [← hA] at Y hvm hhp
  have hW0 : s.WarmedH s'.vm := by rw [← hvm]; exact State.WarmedH.refl s
  have hth : ∀ w ∈ th, w.before args s' = true := fun w hw => hz s' hW0 (by rw [hhp]; exact hS.1) (by rw [hhp]; exact hS.2.1) w hw args
  have hat := tx_atoms hoa hq hZ hvm hth
  have hq' : ∀ w ∈ wz, w.before args s' = true := fun w hw => word_at hW0 (good_of_word (List.mem_filter.mp hw).2) (hq w hw)
  have hown' : s'.vm.findClass own = some m.cls := by rw [← hvm]; exact hown
  have hins : (Cond.instantiable cls 6).before args s' = true := hat _ (by simp [Bundle.ownAtoms])
  have key : W p l e { frames := R.frames, locals := R.locals, cells := 1, slots := 6 } s' m args below meth c H [] 0 0 (fun U => ∃ q ce, U.status = .running ∧ Ended U below (.threw q) ∧ s'.WarmedH U.vm ∧ s'.sameButNew ({ U with vm := s'.vm } : State) [] (0 + 1) (0 + 6) ∧ U.heap[q]? = some ce ∧ ce.vm = .none ∧ s'.vm.findClass cls = some ce.cls) (F0 m pc ls rest) := by
    refine W.newc hexec hb (own := own) (C := cls) (index := ik) (n := 6) hown' (hq' _ hk) hins (hq' _ hi) rfl d0 (Nat.le_refl _) (Nat.le_refl _) (fun cC kC h1 h2 h3 h4 => ?_)
    refine lv_dup hexec hb d3 rfl ?_
    refine va_ldcS hexec hb hown' (vk_R.warm hW0 hstr) d4 ?_
    intro T2 hT2 X2
    obtain ⟨U, hsteps, hrun, hend, hW, hsame, ce, hce, hO⟩ := X2.ctorThrowS hexec htr (own := own) (cls := cls) (names := names) (ic := ic) hown' hcls hnames hat (fun x hx => nomatch hx) (a := H.size) h1 h2
      (by rw [hT2]; exact Array.getElem?_push_size) (by rw [hhp]; exact Nat.le_refl _) (msg := .ref sa) rfl (g := F0 m (pc + 6) ls (.ref sa :: .ref H.size :: .ref H.size :: rest)) rfl hsize rfl rfl (rest := rest) rfl
      (by rw [hb]; exact d6) (by rw [hb]; exact d9) (fun x hx => (hTab x hx).elim) hRf (by
        show 2 * 0 + ((Value.ref H.size).category + (rest.map fun v => v.category).sum) + (13 * (names.length + 1) + 42) ≤ R.locals
        have : (Value.ref H.size).category = 1 := rfl
        omega) hlocks
    exact ⟨U, hsteps, H.size, ce, hrun, hend, hW, hsame, hce, hO.vm, hO.cls⟩
  obtain ⟨U, a1, q, ce, hrun, hend, hW, hsame, hce, hcv, hcl⟩ := key T hT Y
  obtain ⟨f1, f2⟩ := tx_same hsame
  rw [hhp] at f1 f2
  have hWs : s.WarmedH U.vm := State.WarmedH.trans hW0 hW
  refine ⟨U, a1, .threw q, hrun, hend, hx U ce q hWs.alike f1 f2 hce hcv (by rw [hvm]; exact hcl), hWs, locs, ?_, hf⟩
  subst hA
  obtain ⟨e1, e2⟩ := hsame
  rw [State.setFrames_setFrames] at e1
  have h2 : (T.setVm s.vm).sameButNew ({ U with vm := s.vm } : State) [] (0 + 1) (0 + 6) := ⟨e1, e2⟩
  have h3 := X.same.trans h2
  rw [List.append_nil] at h3
  exact h3.mono hc hs
/-- a text by a wide index -/
theorem tx_ldcw {cc : ByteArray} {own tx : String} {index q : Nat} (hexec : p.tables.exec = Jvm.exec) (hb : c.code = cc) (hown : s.vm.findClass own = some m.cls) (hR : vk_R own index tx q s) (hdg : decode cc pc = .ok (.ldc_w index, 3))
    (k : W p l e R s m args below meth c H locs cells slots Q (F0 m (pc + 3) ls (.ref q :: rest))) : W p l e R s m args below meth c H locs cells slots Q (F0 m pc ls rest) := by
  intro T hT X
  obtain ⟨t, a1, b1⟩ := k T hT X
  exact ⟨t, X.ldcStringW hexec (own := own) (text := tx) (index := index) (a := q) hown hR.1 hR.2 (g := F0 m pc ls rest) rfl (by rw [hb]; exact hdg) t a1, b1⟩
/-- 'throw new E("text")': new; dup; ldc_w; invokespecial; athrow -/
theorem tx_throwW {cc : ByteArray} {Qc : Array Value → State → Outcome → State → Prop} (hexec : p.tables.exec = Jvm.exec) (hb : c.code = cc) (hl : l.stackTraces = false) {own cls text : String} {names : List String} {ik is ic sa : Nat} {A : Nat → Prop}
    (hown : s.vm.findClass own = some m.cls) (hcls : Bundle.fit cls = true) (hnames : ∀ n ∈ names, Bundle.fit n = true) (hoa : ∀ w ∈ Bundle.ownAtoms own ic cls names, oy w = true)
    (hq : ∀ w ∈ wz, w.before args s = true) (hk : Cond.classLink own ik cls ∈ wz) (hi : Cond.initialized cls ∈ wz) (hZ : zq s) (hstr : vk_R own is text sa s) (hz : tz A s) (hS : va_S A s.heap H locs) (hsize : ls.size = c.maxLocals)
    (d0 : decode cc pc = .ok (.new ik, 3)) (d3 : decode cc (pc + 3) = .ok (.dup, 1)) (d4 : decode cc (pc + 4) = .ok (.ldc_w is, 3)) (d6 : decode cc (pc + 7) = .ok (.invokespecial ic, 3)) (d9 : decode cc (pc + 10) = .ok (.athrow, 1))
    (hTab : ∀ x ∈ c.exceptionTable.toList, False) (hlocks : meth.locks = false)
    (hRf : names.length + 3 < R.frames) (hRl : (rest.map fun v => v.category).sum + (13 * (names.length + 1) + 43) ≤ R.locals) (hRc : cells + 1 ≤ R.cells) (hRs : slots + 6 ≤ R.slots)
    (hx : ∀ (t : State) (ce : Cell) (q : Addr), s.vm.Alike t.vm → H.size ≤ t.heap.size → (∀ z : Nat, z < H.size → t.heap[z]? = H[z]?) → t.heap[q]? = some ce → ce.vm = .none → s.vm.findClass cls = some ce.cls → Qc args s (.threw q) t)
    (hf : ∀ z ∈ locs, free z.base) (hc : cells + 1 ≤ mc) (hs : slots + 6 ≤ ms) :
    W p l e R s m args below meth c H locs cells slots (tx_MQ below Qc args s mc ms free) (F0 m pc ls rest) := by
  intro T hT X
  have htr : e.platform.stackTraces = false := (show e.platform.stackTraces = l.stackTraces by rw [X.admits.platform]).trans hl
  have Y := tx_base X (R' := { frames := R.frames, locals := R.locals, cells := 1, slots := 6 }) (Nat.le_refl _) (Nat.le_refl _) hRc hRs
  have hvm : s.vm = ((T.setVm s.vm).setFrames (.invoking m args :: below)).vm := rfl
  have hhp : ((T.setVm s.vm).setFrames (.invoking m args :: below)).heap = H := hT
  obtain ⟨s', hA⟩ : ∃ z, z = (T.setVm s.vm).setFrames (.invoking m args :: below) := ⟨_, rfl⟩
  rw [← hA] at Y hvm hhp
  have hW0 : s.WarmedH s'.vm := by rw [← hvm]; exact State.WarmedH.refl s
  have hth : ∀ w ∈ th, w.before args s' = true := fun w hw => hz s' hW0 (by rw [hhp]; exact hS.1) (by rw [hhp]; exact hS.2.1) w hw args
  have hat := tx_atoms hoa hq hZ hvm hth
  have hq' : ∀ w ∈ wz, w.before args s' = true := fun w hw => word_at hW0 (good_of_word (List.mem_filter.mp hw).2) (hq w hw)
  have hown' : s'.vm.findClass own = some m.cls := by rw [← hvm]; exact hown
  have hins : (Cond.instantiable cls 6).before args s' = true := hat _ (by simp [Bundle.ownAtoms])
  have key : W p l e { frames := R.frames, locals := R.locals, cells := 1, slots := 6 } s' m args below meth c H [] 0 0 (fun U => ∃ q ce, U.status = .running ∧ Ended U below (.threw q) ∧ s'.WarmedH U.vm ∧ s'.sameButNew ({ U with vm := s'.vm } : State) [] (0 + 1) (0 + 6) ∧ U.heap[q]? = some ce ∧ ce.vm = .none ∧ s'.vm.findClass cls = some ce.cls) (F0 m pc ls rest) := by
    refine W.newc hexec hb (own := own) (C := cls) (index := ik) (n := 6) hown' (hq' _ hk) hins (hq' _ hi) rfl d0 (Nat.le_refl _) (Nat.le_refl _) (fun cC kC h1 h2 h3 h4 => ?_)
    refine lv_dup hexec hb d3 rfl ?_
    refine tx_ldcw hexec hb hown' (vk_R.warm hW0 hstr) d4 ?_
    intro T2 hT2 X2
    obtain ⟨U, hsteps, hrun, hend, hW, hsame, ce, hce, hO⟩ := X2.ctorThrowS hexec htr (own := own) (cls := cls) (names := names) (ic := ic) hown' hcls hnames hat (fun x hx => nomatch hx) (a := H.size) h1 h2
      (by rw [hT2]; exact Array.getElem?_push_size) (by rw [hhp]; exact Nat.le_refl _) (msg := .ref sa) rfl (g := F0 m (pc + 7) ls (.ref sa :: .ref H.size :: .ref H.size :: rest)) rfl hsize rfl rfl (rest := rest) rfl
      (by rw [hb]; exact d6) (by rw [hb]; exact d9) (fun x hx => (hTab x hx).elim) hRf (by
        show 2 * 0 + ((Value.ref H.size).category + (rest.map fun v => v.category).sum) + (13 * (names.length + 1) + 42) ≤ R.locals
        have : (Value.ref H.size).category = 1 := rfl
        omega) hlocks
    exact ⟨U, hsteps, H.size, ce, hrun, hend, hW, hsame, hce, hO.vm, hO.cls⟩
  obtain ⟨U, a1, q, ce, hrun, hend, hW, hsame, hce, hcv, hcl⟩ := key T hT Y
  obtain ⟨f1, f2⟩ := tx_same hsame
  rw [hhp] at f1 f2
  have hWs : s.WarmedH U.vm := State.WarmedH.trans hW0 hW
  refine ⟨U, a1, .threw q, hrun, hend, hx U ce q hWs.alike f1 f2 hce hcv (by rw [hvm]; exact hcl), hWs, locs, ?_, hf⟩
  subst hA
  obtain ⟨e1, e2⟩ := hsame
  rw [State.setFrames_setFrames] at e1
  have h2 : (T.setVm s.vm).sameButNew ({ U with vm := s.vm } : State) [] (0 + 1) (0 + 6) := ⟨e1, e2⟩
  have h3 := X.same.trans h2
  rw [List.append_nil] at h3
  exact h3.mono hc hs
end TXD
def tqx : List Cond := tq_18 ++ (tq_19 ++ (tq_20 ++ (tq_21 ++ (tq_22 ++ (tq_23 ++ (tq_24 ++ (tq_40 ++ (tq_0 ++ (tq_1)))))))))
theorem tqx_in : ∀ w ∈ tqx, w ∈ lw_tbl := fun w h => List.mem_append_right _ ((List.mem_append.mp h).elim (fun h => tq_18_in w h) (fun h => (List.mem_append.mp h).elim (fun h => tq_19_in w h) (fun h => (List.mem_append.mp h).elim (fun h => tq_20_in w h) (fun h => (List.mem_append.mp h).elim (fun h => tq_21_in w h) (fun h => (List.mem_append.mp h).elim (fun h => tq_22_in w h) (fun h => (List.mem_append.mp h).elim (fun h => tq_23_in w h) (fun h => (List.mem_append.mp h).elim (fun h => tq_24_in w h) (fun h => (List.mem_append.mp h).elim (fun h => tq_40_in w h) (fun h => (List.mem_append.mp h).elim (fun h => tq_0_in w h) (fun h => tq_1_in w h))))))))))
def oz (w : Cond) : Bool := (decide (w ∈ tqx) && ((goodWord w && w.onTables) || zz_k w)) || decide (w ∈ th)
theorem oz_oy {w : Cond} (h : oz w = true) : oy w = true := by
  simp only [oz, oy, Bool.or_eq_true, Bool.and_eq_true, decide_eq_true_eq] at h ⊢
  exact h.imp (fun q => ⟨tqx_in w q.1, q.2⟩) id
set_option maxRecDepth 100000 in
theorem oa_231 : ∀ w ∈ Bundle.ownAtoms "StepCourt" 231 "java/lang/IndexOutOfBoundsException" ["java/lang/RuntimeException", "java/lang/Exception"], oy w = true := fun w h => oz_oy ((by decide +kernel : ∀ w ∈ Bundle.ownAtoms "StepCourt" 231 "java/lang/IndexOutOfBoundsException" ["java/lang/RuntimeException", "java/lang/Exception"], oz w = true) w h)
set_option maxRecDepth 100000 in
theorem oa_102 : ∀ w ∈ Bundle.ownAtoms "StepCourt" 102 "java/lang/UnsupportedOperationException" ["java/lang/RuntimeException", "java/lang/Exception"], oy w = true := fun w h => oz_oy ((by decide +kernel : ∀ w ∈ Bundle.ownAtoms "StepCourt" 102 "java/lang/UnsupportedOperationException" ["java/lang/RuntimeException", "java/lang/Exception"], oz w = true) w h)
set_option maxRecDepth 100000 in
theorem oa_122 : ∀ w ∈ Bundle.ownAtoms "StepCourt" 122 "java/lang/IllegalStateException" ["java/lang/RuntimeException", "java/lang/Exception"], oy w = true := fun w h => oz_oy ((by decide +kernel : ∀ w ∈ Bundle.ownAtoms "StepCourt" 122 "java/lang/IllegalStateException" ["java/lang/RuntimeException", "java/lang/Exception"], oz w = true) w h)
set_option maxRecDepth 100000 in
theorem oa_91 : ∀ w ∈ Bundle.ownAtoms "StepCourt" 91 "java/lang/IllegalArgumentException" ["java/lang/RuntimeException", "java/lang/Exception"], oy w = true := fun w h => oz_oy ((by decide +kernel : ∀ w ∈ Bundle.ownAtoms "StepCourt" 91 "java/lang/IllegalArgumentException" ["java/lang/RuntimeException", "java/lang/Exception"], oz w = true) w h)

