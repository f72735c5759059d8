/-- the words of a throw that speak of the heap, at any later state that keeps the old cells -/
theorem gs_1 {C n d : String} {args a : Array Value} {s V : State} (hW : s.WarmedH V.vm) (hh : ∀ q : Nat, q < s.heap.size → V.heap[q]? = s.heap[q]?) (hl : (Cond.laysStatic C n d).before args s = true) (hr : (Cond.isRef (.static C n d)).before args s = true) : (Cond.laysStatic C n d).before a V = true ∧ (Cond.isRef (.static C n d)).before a V = true := by
  obtain ⟨c, k, i, f, ad, cell, h1, h2, h3, h4, h5, h6, h7, h8, h9⟩ := Cond.laysStatic_spec hl
  obtain ⟨k', hi', he⟩ := State.fieldFound?_setVm hW.alike h2
  have hcV : V.heap[ad]? = some cell := by rw [hh ad (Array.getElem?_eq_some_iff.mp h5).1]; exact h5
  have h4' : k'.statics = some ad := by rw [he]; exact h4
  have hi' : V.fieldFound? C n d = some (c, k', i, f) := hi'
  have hl' : (Cond.laysStatic C n d).holds a V none V [] = true := Cond.laysStatic_of (by rw [hW.alike.findClass]; exact h1) hi' h3 h4' hcV h6 h7 h8 (by rw [he]; exact h9)
  refine ⟨hl', ?_⟩
  cases hv : (Term.static C n d).eval args s none [] s with
  | none => simp [Cond.before, Cond.holds, Cond.value, hv] at hr
  | some w =>
    obtain ⟨-, a', cell', ha', hcell', -, hslot⟩ := Term.static_spec h2 hv
    have ea : a' = ad := Option.some.inj (ha'.symm.trans h4)
    subst ea
    have ec : cell' = cell := Option.some.inj (hcell'.symm.trans h5)
    subst ec
    have hv' : (Term.static C n d).eval a V none [] V = some w := by
      simp [Term.eval, State.fieldNamed?, hi', h3, h4', hcV, h6, hslot]
    simp only [Cond.before, Cond.holds, Cond.value, hv] at hr
    simp only [Cond.before, Cond.holds, Cond.value, hv']
    exact hr
theorem gs_tz {args : Array Value} {s : State} (h1 : (Cond.laysStatic Bundle.tN "UNASSIGNED_STACK" Bundle.steD).before args s = true) (h2 : (Cond.laysStatic Bundle.tN "SUPPRESSED_SENTINEL" Bundle.listD).before args s = true)
    (h3 : (Cond.isRef (.static Bundle.tN "UNASSIGNED_STACK" Bundle.steD)).before args s = true) (h4 : (Cond.isRef (.static Bundle.tN "SUPPRESSED_SENTINEL" Bundle.listD)).before args s = true) : tz (fun q : Nat => s.heap.size ≤ q) s := by
  intro V hW hz hk w hw a
  have hh : ∀ q : Nat, q < s.heap.size → V.heap[q]? = s.heap[q]? := fun q h => hk q h (Nat.not_le.mpr h)
  have q1 := gs_1 (a := a) hW hh h1 h3
  have q2 := gs_1 (a := a) hW hh h2 h4
  rcases List.mem_cons.mp hw with rfl | hw
  · exact q1.2
  rcases List.mem_cons.mp hw with rfl | hw
  · exact q2.2
  rcases List.mem_cons.mp hw with rfl | hw
  · exact q1.1
  rcases List.mem_cons.mp hw with rfl | hw
  · exact q2.1
  cases hw
theorem gs_str {own tx : String} {k : Nat} {args : Array Value} {s : State} (h1 : (Cond.stringRef own k tx).before args s = true) (h2 : (Cond.exactly (.string own k) "java/lang/String").before args s = true) : ∃ a, vk_R own k tx a s := by
  obtain ⟨a, c, cell, kk, he, -⟩ := Cond.exactly_spec (show (Cond.exactly (.string own k) "java/lang/String").holds args s none s [] = true from h2)
  exact ⟨a, vk_R.of h1 he⟩
set_option maxRecDepth 100000 in
theorem gs_zq {s : State} {b : Nat} (hts : ∀ w ∈ lw_tbl, w.before #[Value.ref b] s = true) (hgv : (Jvm.Cond.and given_1 narrow_1).before #[Value.ref b] s = true) : zq s := by
  have hf := flat_of_before _ hgv
  have ht : ∀ (i : Nat) (w : Cond), tables_1[i]? = some w → w.before #[Value.ref b] s = true := fun i w h => hts w (List.mem_append_right _ (List.mem_of_getElem? h))
  refine ⟨fun w hw => va_Nw.of (zz_tab (List.mem_filter.mp hw).2) (hts w (List.mem_append_right _ (List.mem_filter.mp hw).1)), va_AO.of (ht 186 _ (by decide +kernel)), fun x hx => ?_, fun x hx => ?_⟩
  · rcases List.mem_cons.mp hx with rfl | hx
    · exact gs_str (ht 488 (.stringRef "StepCourt" 302 "there is no such party") (by decide +kernel)) (hf (.exactly (.string "StepCourt" 302) "java/lang/String") (by decide +kernel))
    rcases List.mem_cons.mp hx with rfl | hx
    · exact gs_str (ht 524 (.stringRef "StepCourt" 89 "the amount is below 1") (by decide +kernel)) (hf (.exactly (.string "StepCourt" 89) "java/lang/String") (by decide +kernel))
    rcases List.mem_cons.mp hx with rfl | hx
    · exact gs_str (ht 544 (.stringRef "StepCourt" 100 "not enough money or room") (by decide +kernel)) (hf (.exactly (.string "StepCourt" 100) "java/lang/String") (by decide +kernel))
    rcases List.mem_cons.mp hx with rfl | hx
    · exact gs_str (ht 562 (.stringRef "StepCourt" 113 "the inbox is full") (by decide +kernel)) (hf (.exactly (.string "StepCourt" 113) "java/lang/String") (by decide +kernel))
    rcases List.mem_cons.mp hx with rfl | hx
    · exact gs_str (ht 580 (.stringRef "StepCourt" 120 "there is an assertion") (by decide +kernel)) (hf (.exactly (.string "StepCourt" 120) "java/lang/String") (by decide +kernel))
    rcases List.mem_cons.mp hx with rfl | hx
    · exact gs_str (ht 587 (.stringRef "StepCourt" 123 "the steps are not 1 to 64") (by decide +kernel)) (hf (.exactly (.string "StepCourt" 123) "java/lang/String") (by decide +kernel))
    rcases List.mem_cons.mp hx with rfl | hx
    · exact gs_str (ht 592 (.stringRef "StepCourt" 308 "the balance is below the stake") (by decide +kernel)) (hf (.exactly (.string "StepCourt" 308) "java/lang/String") (by decide +kernel))
    rcases List.mem_cons.mp hx with rfl | hx
    · exact gs_str (ht 608 (.stringRef "StepCourt" 152 "this party can't begin a game now") (by decide +kernel)) (hf (.exactly (.string "StepCourt" 152) "java/lang/String") (by decide +kernel))
    rcases List.mem_cons.mp hx with rfl | hx
    · exact gs_str (ht 632 (.stringRef "StepCourt" 304 "there is no such game") (by decide +kernel)) (hf (.exactly (.string "StepCourt" 304) "java/lang/String") (by decide +kernel))
    rcases List.mem_cons.mp hx with rfl | hx
    · exact gs_str (ht 633 (.stringRef "StepCourt" 306 "that is not to be done in this game now") (by decide +kernel)) (hf (.exactly (.string "StepCourt" 306) "java/lang/String") (by decide +kernel))
    rcases List.mem_cons.mp hx with rfl | hx
    · exact gs_str (ht 661 (.stringRef "StepCourt" 188 "there is no such part of a proof") (by decide +kernel)) (hf (.exactly (.string "StepCourt" 188) "java/lang/String") (by decide +kernel))
    rcases List.mem_cons.mp hx with rfl | hx
    · exact gs_str (ht 699 (.stringRef "StepCourt" 229 "there is no such payment") (by decide +kernel)) (hf (.exactly (.string "StepCourt" 229) "java/lang/String") (by decide +kernel))
    rcases List.mem_cons.mp hx with rfl | hx
    · exact gs_str (ht 700 (.stringRef "StepCourt" 236 "the payment can't be drawn now") (by decide +kernel)) (hf (.exactly (.string "StepCourt" 236) "java/lang/String") (by decide +kernel))
    rcases List.mem_cons.mp hx with rfl | hx
    · exact gs_str (ht 701 (.stringRef "StepCourt" 241 "the payment's amount is below 1") (by decide +kernel)) (hf (.exactly (.string "StepCourt" 241) "java/lang/String") (by decide +kernel))
    rcases List.mem_cons.mp hx with rfl | hx
    · exact gs_str (ht 702 (.stringRef "StepCourt" 243 "the pot has less") (by decide +kernel)) (hf (.exactly (.string "StepCourt" 243) "java/lang/String") (by decide +kernel))
    cases hx
  · rcases List.mem_cons.mp hx with rfl | hx
    · exact va_Nc.of (hf (.not (.castable "java/lang/IndexOutOfBoundsException" "java/lang/IllegalArgumentException")) (by decide +kernel))
    rcases List.mem_cons.mp hx with rfl | hx
    · exact va_Nc.of (hf (.not (.castable "java/lang/IndexOutOfBoundsException" "java/lang/UnsupportedOperationException")) (by decide +kernel))
    rcases List.mem_cons.mp hx with rfl | hx
    · exact va_Nc.of (hf (.not (.castable "java/lang/IndexOutOfBoundsException" "java/lang/IllegalStateException")) (by decide +kernel))
    rcases List.mem_cons.mp hx with rfl | hx
    · exact va_Nc.of (hf (.not (.castable "java/lang/IllegalArgumentException" "java/lang/IndexOutOfBoundsException")) (by decide +kernel))
    rcases List.mem_cons.mp hx with rfl | hx
    · exact va_Nc.of (hf (.not (.castable "java/lang/IllegalArgumentException" "java/lang/UnsupportedOperationException")) (by decide +kernel))
    rcases List.mem_cons.mp hx with rfl | hx
    · exact va_Nc.of (hf (.not (.castable "java/lang/IllegalArgumentException" "java/lang/IllegalStateException")) (by decide +kernel))
    rcases List.mem_cons.mp hx with rfl | hx
    · exact va_Nc.of (hf (.not (.castable "java/lang/UnsupportedOperationException" "java/lang/IndexOutOfBoundsException")) (by decide +kernel))
    rcases List.mem_cons.mp hx with rfl | hx
    · exact va_Nc.of (hf (.not (.castable "java/lang/UnsupportedOperationException" "java/lang/IllegalArgumentException")) (by decide +kernel))
    rcases List.mem_cons.mp hx with rfl | hx
    · exact va_Nc.of (hf (.not (.castable "java/lang/UnsupportedOperationException" "java/lang/IllegalStateException")) (by decide +kernel))
    rcases List.mem_cons.mp hx with rfl | hx
    · exact va_Nc.of (hf (.not (.castable "java/lang/IllegalStateException" "java/lang/IndexOutOfBoundsException")) (by decide +kernel))
    rcases List.mem_cons.mp hx with rfl | hx
    · exact va_Nc.of (hf (.not (.castable "java/lang/IllegalStateException" "java/lang/IllegalArgumentException")) (by decide +kernel))
    rcases List.mem_cons.mp hx with rfl | hx
    · exact va_Nc.of (hf (.not (.castable "java/lang/IllegalStateException" "java/lang/UnsupportedOperationException")) (by decide +kernel))
    cases hx
set_option maxRecDepth 100000 in
theorem gs_K {s : State} {b : Nat} (hq : ∀ w ∈ wz, w.before #[Value.ref b] s = true) : ∃ (dC : Nat → ClassId) (dI : Nat → Nat → Nat), va_K (dC, dI) vwCl [] s := by
  obtain ⟨c0, i0, h0⟩ := u_known hq inAs (hq (.instantiable "StepCourt$Assertion" 7) (wz_c tq_6_in 8 rfl rfl))
  obtain ⟨c1, i1, h1⟩ := u_known hq inCo (hq (.instantiable "StepCourt$Code" 2) (wz_c tq_1_in 4 rfl rfl))
  obtain ⟨c2, i2, h2⟩ := u_known hq inGa (hq (.instantiable "StepCourt$Game" 9) (wz_c tq_7_in 19 rfl rfl))
  obtain ⟨c3, i3, h3⟩ := u_known hq inIn (hq (.instantiable "StepCourt$Inbox" 2) (wz_c tq_1_in 22 rfl rfl))
  obtain ⟨c4, i4, h4⟩ := u_known hq inMa (hq (.instantiable "StepCourt$Machine" 8) (wz_c tq_2_in 12 rfl rfl))
  obtain ⟨c5, i5, h5⟩ := u_known hq inPa (hq (.instantiable "StepCourt$Payments" 4) (wz_c tq_4_in 10 rfl rfl))
  obtain ⟨c6, i6, h6⟩ := u_known hq inPr (hq (.instantiable "StepCourt$Proof" 4) (wz_c tq_5_in 10 rfl rfl))
  obtain ⟨c7, i7, h7⟩ := u_known hq inSc (hq (.instantiable "StepCourt" 13) (wz_c tq_0_in 20 rfl rfl))
  obtain ⟨c8, i8, h8⟩ := u_known hq inMo (hq (.instantiable "StepCourtModel" 35) (wz_c tq_29_in 8 rfl rfl))
  refine ⟨fun n => [c0, c1, c2, c3, c4, c5, c6, c7, c8].getD n 0, fun n => [i0, i1, i2, i3, i4, i5, i6, i7, i8].getD n (fun _ => 0), fun c q hc => ?_, fun k q hk => by cases hk⟩
  have hlt : c < 9 := (List.getElem?_eq_some_iff.mp hc).1
  rcases (show c = 0 ∨ c = 1 ∨ c = 2 ∨ c = 3 ∨ c = 4 ∨ c = 5 ∨ c = 6 ∨ c = 7 ∨ c = 8 by omega) with rfl | rfl | rfl | rfl | rfl | rfl | rfl | rfl | rfl
  · cases hc; exact h0
  · cases hc; exact h1
  · cases hc; exact h2
  · cases hc; exact h3
  · cases hc; exact h4
  · cases hc; exact h5
  · cases hc; exact h6
  · cases hc; exact h7
  · cases hc; exact h8
theorem gs_start {p : Program} {e : Env} {s : State} {m : MethodId} {below : List Frame} {meth : Method} {c : Code} (l : Launch) (hl9 : l.stackTraces = false) {b L : Nat} {xs : Nat → Int32} (hw : wp_La_law L xs) (C0 : lw_At p s m meth c b L xs) : W p l e room_1 s m #[Value.ref b] below meth c s.heap [] 0 0 (lw_Z below #[Value.ref b] s) (entryFrame m ([Value.ref b] : List Value).toArray 8) := by
  obtain ⟨hx, hb, hr, hml, hown, hts, hX, hbl, hlocks, hgv⟩ := C0
  have hq : ∀ w ∈ wz, w.before #[Value.ref b] s = true := fun w h => hts w (wz_in w h)
  have hf := flat_of_before _ hgv
  have ht : ∀ (i : Nat) (w : Cond), tables_1[i]? = some w → w.before #[Value.ref b] s = true := fun i w h => hts w (List.mem_append_right _ (List.mem_of_getElem? h))
  obtain ⟨dC, dI, hK⟩ := gs_K hq
  exact wk_law l hl9 dC dI hx hb hr hml hown hq hX hbl hlocks (gs_zq hts hgv) (gs_tz (ht 473 _ (by decide +kernel)) (ht 475 _ (by decide +kernel)) (hf (.isRef (.static Bundle.tN "UNASSIGNED_STACK" Bundle.steD)) (by decide +kernel)) (hf (.isRef (.static Bundle.tN "SUPPRESSED_SENTINEL" Bundle.listD)) (by decide +kernel))) hK hw
