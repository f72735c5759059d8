def rf_cells : Array Value := (rf_xs.map Value.int).toArray
def rf_s : State := start1.aboutOf rf_cells
theorem rf_sv (U : State) : U.setVm U.vm = U := rfl
/-- a word that reads the tables alone says the same of both starts -/
theorem rf_word (c : Cond) (hc : c.onTables = true) : c.before start1.args0 rf_s = c.before start1.args0 start1.about := by
  have h := Cond.onTables_vm (A := start1.args0) (A' := start1.args0) (U := rf_s) (U' := start1.about) start1.about.vm c hc
  have e : rf_s.setVm start1.about.vm = rf_s := rf_sv rf_s
  rw [rf_sv start1.about, e] at h
  exact h
set_option maxRecDepth 100000 in
theorem rf_o_tables_1_1 : tables_1_1.all (fun c => c.onTables || c.before start1.args0 rf_s) = true := by decide +kernel
set_option maxRecDepth 100000 in
theorem rf_o_tables_1_2 : tables_1_2.all (fun c => c.onTables || c.before start1.args0 rf_s) = true := by decide +kernel
set_option maxRecDepth 100000 in
theorem rf_o_tables_1_3 : tables_1_3.all (fun c => c.onTables || c.before start1.args0 rf_s) = true := by decide +kernel
set_option maxRecDepth 100000 in
theorem rf_o_tables_1_4 : tables_1_4.all (fun c => c.onTables || c.before start1.args0 rf_s) = true := by decide +kernel
set_option maxRecDepth 100000 in
theorem rf_o_tables_1_5 : tables_1_5.all (fun c => c.onTables || c.before start1.args0 rf_s) = true := by decide +kernel
theorem rf_in_ts (l : List Cond) (h : l.all (fun c => c.onTables || c.before start1.args0 rf_s) = true) (w : ∀ c ∈ l, c.before start1.args0 start1.about = true) : ∀ c ∈ l, c.before start1.args0 rf_s = true := by
  intro c hc
  have h := List.all_eq_true.mp h c hc
  cases hq : c.onTables with
  | true => rw [rf_word c hq]; exact w c hc
  | false => simpa [hq] using h
theorem rf_words : ∀ c ∈ (Cond.code x code maxLocals ret :: tables_1), c.before start1.args0 rf_s = true := by
  intro c hc
  have w := start1.words
  rcases List.mem_cons.mp hc with h | h
  · rw [h, rf_word _ rfl]
    exact w _ List.mem_cons_self
  · have W : ∀ c ∈ tables_1, c.before start1.args0 start1.about = true := fun c h => w c (List.mem_cons_of_mem _ h)
    have h1 : c ∈ tables_1_1 ++ (tables_1_2 ++ (tables_1_3 ++ (tables_1_4 ++ tables_1_5))) := h
    have W : ∀ c ∈ tables_1_1 ++ (tables_1_2 ++ (tables_1_3 ++ (tables_1_4 ++ tables_1_5))), c.before start1.args0 start1.about = true := W
    rcases List.mem_append.mp h1 with h2 | h1
    · exact rf_in_ts _ rf_o_tables_1_1 (fun c h => W c (List.mem_append_left _ h)) c h2
    have W := fun c h => W c (List.mem_append_right _ h)
    rcases List.mem_append.mp h1 with h2 | h1
    · exact rf_in_ts _ rf_o_tables_1_2 (fun c h => W c (List.mem_append_left _ h)) c h2
    have W := fun c h => W c (List.mem_append_right _ h)
    rcases List.mem_append.mp h1 with h2 | h1
    · exact rf_in_ts _ rf_o_tables_1_3 (fun c h => W c (List.mem_append_left _ h)) c h2
    have W := fun c h => W c (List.mem_append_right _ h)
    rcases List.mem_append.mp h1 with h2 | h1
    · exact rf_in_ts _ rf_o_tables_1_4 (fun c h => W c (List.mem_append_left _ h)) c h2
    exact rf_in_ts _ rf_o_tables_1_5 (fun c h => W c (List.mem_append_right _ h)) c h1
set_option maxRecDepth 100000 in
theorem rf_start : AtStart classFile x code maxLocals ret World_1 tables_1 room_1 Calls_1 rest_1 Pre_1 launch0 start1.p0 start1.e0 rf_s ⟨0, 0⟩ #[Value.ref 0] Lib.HandBits.below0 :=
  ⟨lists_1, trivial, launch0.admits_env _ _ _, launch0.least_env, fairChoices_fair.cas, fairChoices_fair.clock, rfl, by decide +kernel, by decide +kernel,
    (Spec.applies_iff rfl).mpr ⟨rfl, rfl, rfl, by decide +kernel, by decide +kernel, by decide +kernel, launch0.hasRoom_least _ room_1 (by decide +kernel) (by decide +kernel) (by decide +kernel) (by decide +kernel) (by decide +kernel) (by decide +kernel), atoms_intro rf_words⟩,
    trivial, (show rest_1_c.before start1.args0 rf_s = true by decide +kernel), (show (Cond.and given_1 narrow_1).before start1.args0 rf_s = true by decide +kernel)⟩
theorem rf_ints : rf_s.IntsAt 0 rf_xs := ⟨{ cls := 22, slots := rf_cells, vm := .none }, rfl, rfl, ⟨fun k h => (by cases h), start1.cArr "[I" 21 .int, rfl, 21, rfl⟩, by decide⟩
/-- THE CLAIM IS FALSE -/
theorem rf_refuted : ¬ (Claimed_1_1 ∧ Claimed_1_2) := rf_false (l := launch0) rfl rf_start rf_ints
