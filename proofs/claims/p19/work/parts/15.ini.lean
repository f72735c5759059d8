theorem dAs_init_0 : decode cAs_init 0 = .ok (.aload_n 0, 1) := by decide +kernel
theorem dAs_init_1 : decode cAs_init 1 = .ok (.invokespecial 1, 3) := by decide +kernel
theorem dAs_init_4 : decode cAs_init 4 = .ok (.return_, 1) := by decide +kernel
theorem dCo_init_0 : decode cCo_init 0 = .ok (.aload_n 0, 1) := by decide +kernel
theorem dCo_init_1 : decode cCo_init 1 = .ok (.invokespecial 3, 3) := by decide +kernel
theorem dCo_init_4 : decode cCo_init 4 = .ok (.aload_n 0, 1) := by decide +kernel
theorem dCo_init_5 : decode cCo_init 5 = .ok (.bipush 16, 2) := by decide +kernel
theorem dCo_init_7 : decode cCo_init 7 = .ok (.newarray .int, 2) := by decide +kernel
theorem dCo_init_9 : decode cCo_init 9 = .ok (.putfield 9, 3) := by decide +kernel
theorem dCo_init_12 : decode cCo_init 12 = .ok (.aload_n 0, 1) := by decide +kernel
theorem dCo_init_13 : decode cCo_init 13 = .ok (.bipush 16, 2) := by decide +kernel
theorem dCo_init_15 : decode cCo_init 15 = .ok (.newarray .int, 2) := by decide +kernel
theorem dCo_init_17 : decode cCo_init 17 = .ok (.putfield 15, 3) := by decide +kernel
theorem dCo_init_20 : decode cCo_init 20 = .ok (.return_, 1) := by decide +kernel
theorem dGa_init_0 : decode cGa_init 0 = .ok (.aload_n 0, 1) := by decide +kernel
theorem dGa_init_1 : decode cGa_init 1 = .ok (.invokespecial 3, 3) := by decide +kernel
theorem dGa_init_4 : decode cGa_init 4 = .ok (.return_, 1) := by decide +kernel
theorem dIn_init_0 : decode cIn_init 0 = .ok (.aload_n 0, 1) := by decide +kernel
theorem dIn_init_1 : decode cIn_init 1 = .ok (.invokespecial 3, 3) := by decide +kernel
theorem dIn_init_4 : decode cIn_init 4 = .ok (.aload_n 0, 1) := by decide +kernel
theorem dIn_init_5 : decode cIn_init 5 = .ok (.bipush 60, 2) := by decide +kernel
theorem dIn_init_7 : decode cIn_init 7 = .ok (.newarray .int, 2) := by decide +kernel
theorem dIn_init_9 : decode cIn_init 9 = .ok (.putfield 9, 3) := by decide +kernel
theorem dIn_init_12 : decode cIn_init 12 = .ok (.return_, 1) := by decide +kernel
theorem dMa_init_0 : decode cMa_init 0 = .ok (.aload_n 0, 1) := by decide +kernel
theorem dMa_init_1 : decode cMa_init 1 = .ok (.invokespecial 3, 3) := by decide +kernel
theorem dMa_init_4 : decode cMa_init 4 = .ok (.aload_n 0, 1) := by decide +kernel
theorem dMa_init_5 : decode cMa_init 5 = .ok (.bipush 8, 2) := by decide +kernel
theorem dMa_init_7 : decode cMa_init 7 = .ok (.newarray .int, 2) := by decide +kernel
theorem dMa_init_9 : decode cMa_init 9 = .ok (.putfield 9, 3) := by decide +kernel
theorem dMa_init_12 : decode cMa_init 12 = .ok (.aload_n 0, 1) := by decide +kernel
theorem dMa_init_13 : decode cMa_init 13 = .ok (.bipush 16, 2) := by decide +kernel
theorem dMa_init_15 : decode cMa_init 15 = .ok (.newarray .long, 2) := by decide +kernel
theorem dMa_init_17 : decode cMa_init 17 = .ok (.putfield 15, 3) := by decide +kernel
theorem dMa_init_20 : decode cMa_init 20 = .ok (.return_, 1) := by decide +kernel
theorem dPa_init_0 : decode cPa_init 0 = .ok (.aload_n 0, 1) := by decide +kernel
theorem dPa_init_1 : decode cPa_init 1 = .ok (.invokespecial 3, 3) := by decide +kernel
theorem dPa_init_4 : decode cPa_init 4 = .ok (.aload_n 0, 1) := by decide +kernel
theorem dPa_init_5 : decode cPa_init 5 = .ok (.bipush 30, 2) := by decide +kernel
theorem dPa_init_7 : decode cPa_init 7 = .ok (.newarray .int, 2) := by decide +kernel
theorem dPa_init_9 : decode cPa_init 9 = .ok (.putfield 9, 3) := by decide +kernel
theorem dPa_init_12 : decode cPa_init 12 = .ok (.aload_n 0, 1) := by decide +kernel
theorem dPa_init_13 : decode cPa_init 13 = .ok (.bipush 30, 2) := by decide +kernel
theorem dPa_init_15 : decode cPa_init 15 = .ok (.newarray .int, 2) := by decide +kernel
theorem dPa_init_17 : decode cPa_init 17 = .ok (.putfield 15, 3) := by decide +kernel
theorem dPa_init_20 : decode cPa_init 20 = .ok (.aload_n 0, 1) := by decide +kernel
theorem dPa_init_21 : decode cPa_init 21 = .ok (.bipush 30, 2) := by decide +kernel
theorem dPa_init_23 : decode cPa_init 23 = .ok (.newarray .boolean, 2) := by decide +kernel
theorem dPa_init_25 : decode cPa_init 25 = .ok (.putfield 18, 3) := by decide +kernel
theorem dPa_init_28 : decode cPa_init 28 = .ok (.return_, 1) := by decide +kernel
theorem dPr_init_0 : decode cPr_init 0 = .ok (.aload_n 0, 1) := by decide +kernel
theorem dPr_init_1 : decode cPr_init 1 = .ok (.invokespecial 3, 3) := by decide +kernel
theorem dPr_init_4 : decode cPr_init 4 = .ok (.aload_n 0, 1) := by decide +kernel
theorem dPr_init_5 : decode cPr_init 5 = .ok (.new 9, 3) := by decide +kernel
theorem dPr_init_8 : decode cPr_init 8 = .ok (.dup, 1) := by decide +kernel
theorem dPr_init_9 : decode cPr_init 9 = .ok (.invokespecial 11, 3) := by decide +kernel
theorem dPr_init_12 : decode cPr_init 12 = .ok (.putfield 12, 3) := by decide +kernel
theorem dPr_init_15 : decode cPr_init 15 = .ok (.aload_n 0, 1) := by decide +kernel
theorem dPr_init_16 : decode cPr_init 16 = .ok (.iconst 3, 1) := by decide +kernel
theorem dPr_init_17 : decode cPr_init 17 = .ok (.newarray .long, 2) := by decide +kernel
theorem dPr_init_19 : decode cPr_init 19 = .ok (.putfield 18, 3) := by decide +kernel
theorem dPr_init_22 : decode cPr_init 22 = .ok (.return_, 1) := by decide +kernel
abbrev xx_As_init (dC : Nat → ClassId) (dI : Nat → Nat → Nat) (A : Nat → Prop) (h0 : Nat) (u : ct_As) (t : State) : Prop := va_P (dC, dI) vwCl [(h0, ce_As u)] t.heap ∧ va_K (dC, dI) vwCl [] t ∧ va_D A [(h0, ce_As u)]
def wp_As_init (post : ct_As → Prop) : Prop := post (0, 0, 0, 0, 0, 0, 0)
set_option maxHeartbeats 4000000 in
set_option maxRecDepth 100000 in
theorem mt_As_init (l : Launch) (dC : Nat → ClassId) (dI : Nat → Nat → Nat) (h0 : Nat) (sz : Nat) (post : ct_As → Prop) (hw : wp_As_init post) : Met l yAs_init wsAs_init ({ frames := 1, cells := 0, slots := 0, locals := 12 }) (kp_P dC dI [.ref h0] sz ([(h0, ce_As (0, 0, 0, 0, 0, 0, 0))]) []) (va_Qv post (fun u9 => fun t9 => xx_As_init dC dI (va_A ([(h0, ce_As (0, 0, 0, 0, 0, 0, 0))]) sz) h0 u9 t9) (va_A ([(h0, ce_As (0, 0, 0, 0, 0, 0, 0))]) sz)) 0 0 (va_A ([(h0, ce_As (0, 0, 0, 0, 0, 0, 0))]) sz) := by
  refine Met.ofW (cc := cAs_init) (maxL := 1) (ret := none) (by decide) rfl ?_
  intro p e s m args below meth c s₁ B hml hv
  obtain ⟨rfl, hsz, hP, hK, hD0, hZ⟩ := hv
  have hx := B.exec
  have hb := B.bytes
  have hr := B.returns
  have hq : ∀ w ∈ wz, w.before _ s = true := fun w h => atoms_spec (ws := wsAs_init) B.pre w (List.mem_cons_of_mem _ h)
  have hown : s.vm.findClass "StepCourt$Assertion" = some m.cls := findClass_of_methodNamed B.named
  have hlocks := B.notSynchronized
  have hin : meth.name = "<init>" := (name_of_methodNamed B.named B.method).1
  subst hsz
  have hD := hD0.self (sz := s.heap.size)
  generalize hAe : va_A ([(h0, ce_As (0, 0, 0, 0, 0, 0, 0))]) s.heap.size = A at hD ⊢
  have hA : ∀ q : Nat, s.heap.size ≤ q → A q := fun q h => by rw [← hAe]; exact Or.inr h
  have hS : va_S A s.heap s.heap [] := va_S.rf
  have hP : va_P (dC, dI) vwCl [(h0, ce_As (0, 0, 0, 0, 0, 0, 0))] s.heap := hP
  have hD : va_D A [(h0, ce_As (0, 0, 0, 0, 0, 0, 0))] := hD
  have hl := lv_entry ([.ref h0]) (n := 1) (Nat.le_of_ble_eq_true rfl)
  rw [lg_entry_eq]
  generalize (lg_sl ([.ref h0]) ++ List.replicate (1 - (lg_sl ([.ref h0])).length) Slot.unset).toArray = ls at hl ⊢
  have hl : lv_has ls 1 [(0, .ref h0)] := hl
  skip
  refine lv_aload_n hx hb dAs_init_0 rfl (lv_at hl 0 rfl) ?_
  refine W.objInit hx hb hown (hq _ wt_156) (hq _ wt_25) (hq _ wt_26) rfl (by rw [hml]; exact hl.1) rfl dAs_init_1 (Nat.le_of_ble_eq_true rfl) (Nat.le_of_ble_eq_true rfl) ?_
  refine W.eq (g2 := F0 m 4 ls []) rfl ?_
  have hP9 := hP.sub (ws' := [(h0, ce_As (0, 0, 0, 0, 0, 0, 0))]) [0] rfl
  have hD9 := hD.sub (ws' := [(h0, ce_As (0, 0, 0, 0, 0, 0, 0))]) [0] (by decide) rfl
  have hK9 := hK.sub (tys' := []) [] rfl
  exact W.vret hx hb hr (fun t ht hW => ⟨⟨(0, 0, 0, 0, 0, 0, 0), rfl, hw, by rw [ht]; exact hP9, va_K.moved hW.alike hK9, hD9⟩, hS.F ht⟩) hS.2.2 dAs_init_4
abbrev xx_Co_init (dC : Nat → ClassId) (dI : Nat → Nat → Nat) (A : Nat → Prop) (h0 : Nat) (u : (Nat → Int32) × (Nat → Int32)) (t : State) : Prop := ∃ (h0_ops h0_arguments : Nat) (c0_ops c0_arguments : ClassId), va_P (dC, dI) vwCl [(h0, ce_Co h0_ops h0_arguments), (h0_ops, .inl (c0_ops, 16, .inl u.1)), (h0_arguments, .inl (c0_arguments, 16, .inl u.2))] t.heap ∧ va_K (dC, dI) vwCl [(c0_ops, .int), (c0_arguments, .int)] t ∧ va_D A [(h0, ce_Co h0_ops h0_arguments), (h0_ops, .inl (c0_ops, 16, .inl u.1)), (h0_arguments, .inl (c0_arguments, 16, .inl u.2))]
def wp_Co_init (post : ((Nat → Int32) × (Nat → Int32)) → Prop) : Prop := post ((fun _ => 0), (fun _ => 0))
set_option maxHeartbeats 4000000 in
set_option maxRecDepth 100000 in
theorem mt_Co_init (l : Launch) (dC : Nat → ClassId) (dI : Nat → Nat → Nat) (h0 : Nat) (sz : Nat) (post : ((Nat → Int32) × (Nat → Int32)) → Prop) (hw : wp_Co_init post) : Met l yCo_init wsCo_init ({ frames := 1, cells := 2, slots := 32, locals := 12 }) (kp_P dC dI [.ref h0] sz ([(h0, .inr (1, [.null, .null]))]) []) (va_Qv post (fun u9 => fun t9 => xx_Co_init dC dI (va_A ([(h0, .inr (1, [.null, .null]))]) sz) h0 u9 t9) (va_A ([(h0, .inr (1, [.null, .null]))]) sz)) 2 32 (va_A ([(h0, .inr (1, [.null, .null]))]) sz) := by
  refine Met.ofW (cc := cCo_init) (maxL := 1) (ret := none) (by decide) rfl ?_
  intro p e s m args below meth c s₁ B hml hv
  obtain ⟨rfl, hsz, hP, hK, hD0, hZ⟩ := hv
  have hx := B.exec
  have hb := B.bytes
  have hr := B.returns
  have hq : ∀ w ∈ wz, w.before _ s = true := fun w h => atoms_spec (ws := wsCo_init) B.pre w (List.mem_cons_of_mem _ h)
  have hown : s.vm.findClass "StepCourt$Code" = some m.cls := findClass_of_methodNamed B.named
  have hlocks := B.notSynchronized
  have hin : meth.name = "<init>" := (name_of_methodNamed B.named B.method).1
  subst hsz
  have hD := hD0.self (sz := s.heap.size)
  generalize hAe : va_A ([(h0, .inr (1, [.null, .null]))]) s.heap.size = A at hD ⊢
  have hA : ∀ q : Nat, s.heap.size ≤ q → A q := fun q h => by rw [← hAe]; exact Or.inr h
  have hS : va_S A s.heap s.heap [] := va_S.rf
  have hP : va_P (dC, dI) vwCl [(h0, .inr (1, [.null, .null]))] s.heap := hP
  have hD : va_D A [(h0, .inr (1, [.null, .null]))] := hD
  have hl := lv_entry ([.ref h0]) (n := 1) (Nat.le_of_ble_eq_true rfl)
  rw [lg_entry_eq]
  generalize (lg_sl ([.ref h0]) ++ List.replicate (1 - (lg_sl ([.ref h0])).length) Slot.unset).toArray = ls at hl ⊢
  have hl : lv_has ls 1 [(0, .ref h0)] := hl
  skip
  refine lv_aload_n hx hb dCo_init_0 rfl (lv_at hl 0 rfl) ?_
  refine W.objInit hx hb hown (hq _ wt_32) (hq _ wt_25) (hq _ wt_26) rfl (by rw [hml]; exact hl.1) rfl dCo_init_1 (Nat.le_of_ble_eq_true rfl) (Nat.le_of_ble_eq_true rfl) ?_
  refine W.eq (g2 := F0 m 4 ls []) rfl ?_
  refine lv_aload_n hx hb dCo_init_4 rfl (lv_at hl 0 rfl) ?_
  refine lv_bipush (v := 16) hx hb dCo_init_5 (by decide) ?_
  have h_1 : 0 + 1 ≤ 2 := by decide
  have h_2 : 0 + 16 ≤ 32 := by decide
  refine va_newa (atype := .int) (N' := 16) (a0 := (16, .inl (fun _ => 0))) (ty := .int) (n := 16) hx hb (hq _ wt_44) rfl hK hP hD hS hA (fun _ => rfl) (by decide) (by decide) (by decide) h_1 h_2 dCo_init_7 (fun q7 cq7 H hK hP hD hS => ?_)
  have hP : va_P (dC, dI) vwCl [(h0, .inr (1, [.null, .null])), (q7, .inl (cq7, 16, .inl (fun _ => 0)))] H := hP
  have hD : va_D A [(h0, .inr (1, [.null, .null])), (q7, .inl (cq7, 16, .inl (fun _ => 0)))] := hD
  have hK : va_K (dC, dI) vwCl [(cq7, .int)] s := hK
  refine W.widen (k := 1) (n := 16) (by decide) (by decide) ?_
  refine va_putF (D := (dC, dI)) (ci := 1) (v := .ref q7) (ty := (.array .int)) (C := "StepCourt$Code") (T := TCo) (N := 2) hx hb hq inCo tyCo tyCo_ok nmCo hown hK hP hD hS 0 rfl rfl 0 (by decide) (hq _ wt_33) (fun _ h9 => h9) rfl hin rfl (by decide +kernel) rfl rfl (Nat.le_of_ble_eq_true rfl) dCo_init_9 (fun H locs hP hD hS => ?_)
  have hP : va_P (dC, dI) vwCl [(h0, .inr (1, [.ref q7, .null])), (q7, .inl (cq7, 16, .inl (fun _ => 0)))] H := hP
  have hD : va_D A [(h0, .inr (1, [.ref q7, .null])), (q7, .inl (cq7, 16, .inl (fun _ => 0)))] := hD
  refine lv_aload_n hx hb dCo_init_12 rfl (lv_at hl 0 rfl) ?_
  refine lv_bipush (v := 16) hx hb dCo_init_13 (by decide) ?_
  have h_1 : 1 + 1 ≤ 2 := by decide
  have h_2 : 16 + 16 ≤ 32 := by decide
  refine va_newa (atype := .int) (N' := 16) (a0 := (16, .inl (fun _ => 0))) (ty := .int) (n := 16) hx hb (hq _ wt_44) rfl hK hP hD hS hA (fun _ => rfl) (by decide) (by decide) (by decide) h_1 h_2 dCo_init_15 (fun q15 cq15 H hK hP hD hS => ?_)
  have hP : va_P (dC, dI) vwCl [(h0, .inr (1, [.ref q7, .null])), (q7, .inl (cq7, 16, .inl (fun _ => 0))), (q15, .inl (cq15, 16, .inl (fun _ => 0)))] H := hP
  have hD : va_D A [(h0, .inr (1, [.ref q7, .null])), (q7, .inl (cq7, 16, .inl (fun _ => 0))), (q15, .inl (cq15, 16, .inl (fun _ => 0)))] := hD
  have hK : va_K (dC, dI) vwCl [(cq7, .int), (cq15, .int)] s := hK
  refine W.widen (k := 2) (n := 32) (by decide) (by decide) ?_
  refine va_putF (D := (dC, dI)) (ci := 1) (v := .ref q15) (ty := (.array .int)) (C := "StepCourt$Code") (T := TCo) (N := 2) hx hb hq inCo tyCo tyCo_ok nmCo hown hK hP hD hS 0 rfl rfl 1 (by decide) (hq _ wt_36) (fun _ h9 => h9) rfl hin rfl (by decide +kernel) rfl rfl (Nat.le_of_ble_eq_true rfl) dCo_init_17 (fun H locs hP hD hS => ?_)
  have hP : va_P (dC, dI) vwCl [(h0, ce_Co q7 q15), (q7, .inl (cq7, 16, .inl (fun _ => 0))), (q15, .inl (cq15, 16, .inl (fun _ => 0)))] H := hP
  have hD : va_D A [(h0, ce_Co q7 q15), (q7, .inl (cq7, 16, .inl (fun _ => 0))), (q15, .inl (cq15, 16, .inl (fun _ => 0)))] := hD
  have hP9 := hP.sub (ws' := [(h0, ce_Co q7 q15), (q7, .inl (cq7, 16, .inl (fun _ => 0))), (q15, .inl (cq15, 16, .inl (fun _ => 0)))]) [0, 1, 2] rfl
  have hD9 := hD.sub (ws' := [(h0, ce_Co q7 q15), (q7, .inl (cq7, 16, .inl (fun _ => 0))), (q15, .inl (cq15, 16, .inl (fun _ => 0)))]) [0, 1, 2] (by decide) rfl
  have hK9 := hK.sub (tys' := [(cq7, .int), (cq15, .int)]) [0, 1] rfl
  refine W.widen (k := 2) (n := 32) (by decide) (by decide) ?_
  exact W.vret hx hb hr (fun t ht hW => ⟨⟨((fun _ => 0), (fun _ => 0)), rfl, hw, q7, q15, cq7, cq15, by rw [ht]; exact hP9, va_K.moved hW.alike hK9, hD9⟩, hS.F ht⟩) hS.2.2 dCo_init_20
abbrev xx_Ga_init (dC : Nat → ClassId) (dI : Nat → Nat → Nat) (A : Nat → Prop) (h0 : Nat) (u : ct_Ga) (t : State) : Prop := va_P (dC, dI) vwCl [(h0, ce_Ga u)] t.heap ∧ va_K (dC, dI) vwCl [] t ∧ va_D A [(h0, ce_Ga u)]
def wp_Ga_init (post : ct_Ga → Prop) : Prop := post (0, 0, 0, 0, 0, 0, 0, 0, 0)
set_option maxHeartbeats 4000000 in
set_option maxRecDepth 100000 in
theorem mt_Ga_init (l : Launch) (dC : Nat → ClassId) (dI : Nat → Nat → Nat) (h0 : Nat) (sz : Nat) (post : ct_Ga → Prop) (hw : wp_Ga_init post) : Met l yGa_init wsGa_init ({ frames := 1, cells := 0, slots := 0, locals := 12 }) (kp_P dC dI [.ref h0] sz ([(h0, ce_Ga (0, 0, 0, 0, 0, 0, 0, 0, 0))]) []) (va_Qv post (fun u9 => fun t9 => xx_Ga_init dC dI (va_A ([(h0, ce_Ga (0, 0, 0, 0, 0, 0, 0, 0, 0))]) sz) h0 u9 t9) (va_A ([(h0, ce_Ga (0, 0, 0, 0, 0, 0, 0, 0, 0))]) sz)) 0 0 (va_A ([(h0, ce_Ga (0, 0, 0, 0, 0, 0, 0, 0, 0))]) sz) := by
  refine Met.ofW (cc := cGa_init) (maxL := 1) (ret := none) (by decide) rfl ?_
  intro p e s m args below meth c s₁ B hml hv
  obtain ⟨rfl, hsz, hP, hK, hD0, hZ⟩ := hv
  have hx := B.exec
  have hb := B.bytes
  have hr := B.returns
  have hq : ∀ w ∈ wz, w.before _ s = true := fun w h => atoms_spec (ws := wsGa_init) B.pre w (List.mem_cons_of_mem _ h)
  have hown : s.vm.findClass "StepCourt$Game" = some m.cls := findClass_of_methodNamed B.named
  have hlocks := B.notSynchronized
  have hin : meth.name = "<init>" := (name_of_methodNamed B.named B.method).1
  subst hsz
  have hD := hD0.self (sz := s.heap.size)
  generalize hAe : va_A ([(h0, ce_Ga (0, 0, 0, 0, 0, 0, 0, 0, 0))]) s.heap.size = A at hD ⊢
  have hA : ∀ q : Nat, s.heap.size ≤ q → A q := fun q h => by rw [← hAe]; exact Or.inr h
  have hS : va_S A s.heap s.heap [] := va_S.rf
  have hP : va_P (dC, dI) vwCl [(h0, ce_Ga (0, 0, 0, 0, 0, 0, 0, 0, 0))] s.heap := hP
  have hD : va_D A [(h0, ce_Ga (0, 0, 0, 0, 0, 0, 0, 0, 0))] := hD
  have hl := lv_entry ([.ref h0]) (n := 1) (Nat.le_of_ble_eq_true rfl)
  rw [lg_entry_eq]
  generalize (lg_sl ([.ref h0]) ++ List.replicate (1 - (lg_sl ([.ref h0])).length) Slot.unset).toArray = ls at hl ⊢
  have hl : lv_has ls 1 [(0, .ref h0)] := hl
  skip
  refine lv_aload_n hx hb dGa_init_0 rfl (lv_at hl 0 rfl) ?_
  refine W.objInit hx hb hown (hq _ wt_191) (hq _ wt_25) (hq _ wt_26) rfl (by rw [hml]; exact hl.1) rfl dGa_init_1 (Nat.le_of_ble_eq_true rfl) (Nat.le_of_ble_eq_true rfl) ?_
  refine W.eq (g2 := F0 m 4 ls []) rfl ?_
  have hP9 := hP.sub (ws' := [(h0, ce_Ga (0, 0, 0, 0, 0, 0, 0, 0, 0))]) [0] rfl
  have hD9 := hD.sub (ws' := [(h0, ce_Ga (0, 0, 0, 0, 0, 0, 0, 0, 0))]) [0] (by decide) rfl
  have hK9 := hK.sub (tys' := []) [] rfl
  exact W.vret hx hb hr (fun t ht hW => ⟨⟨(0, 0, 0, 0, 0, 0, 0, 0, 0), rfl, hw, by rw [ht]; exact hP9, va_K.moved hW.alike hK9, hD9⟩, hS.F ht⟩) hS.2.2 dGa_init_4
abbrev xx_In_init (dC : Nat → ClassId) (dI : Nat → Nat → Nat) (A : Nat → Prop) (h0 : Nat) (u : ct_In × (Nat → Int32)) (t : State) : Prop := ∃ (h0_words : Nat) (c0_words : ClassId), va_P (dC, dI) vwCl [(h0, ce_In h0_words u.1), (h0_words, .inl (c0_words, 60, .inl u.2))] t.heap ∧ va_K (dC, dI) vwCl [(c0_words, .int)] t ∧ va_D A [(h0, ce_In h0_words u.1), (h0_words, .inl (c0_words, 60, .inl u.2))]
def wp_In_init (post : (ct_In × (Nat → Int32)) → Prop) : Prop := post (0, (fun _ => 0))
set_option maxHeartbeats 4000000 in
set_option maxRecDepth 100000 in
theorem mt_In_init (l : Launch) (dC : Nat → ClassId) (dI : Nat → Nat → Nat) (h0 : Nat) (sz : Nat) (post : (ct_In × (Nat → Int32)) → Prop) (hw : wp_In_init post) : Met l yIn_init wsIn_init ({ frames := 1, cells := 1, slots := 60, locals := 12 }) (kp_P dC dI [.ref h0] sz ([(h0, .inr (3, [.null, .int 0]))]) []) (va_Qv post (fun u9 => fun t9 => xx_In_init dC dI (va_A ([(h0, .inr (3, [.null, .int 0]))]) sz) h0 u9 t9) (va_A ([(h0, .inr (3, [.null, .int 0]))]) sz)) 1 60 (va_A ([(h0, .inr (3, [.null, .int 0]))]) sz) := by
  refine Met.ofW (cc := cIn_init) (maxL := 1) (ret := none) (by decide) rfl ?_
  intro p e s m args below meth c s₁ B hml hv
  obtain ⟨rfl, hsz, hP, hK, hD0, hZ⟩ := hv
  have hx := B.exec
  have hb := B.bytes
  have hr := B.returns
  have hq : ∀ w ∈ wz, w.before _ s = true := fun w h => atoms_spec (ws := wsIn_init) B.pre w (List.mem_cons_of_mem _ h)
  have hown : s.vm.findClass "StepCourt$Inbox" = some m.cls := findClass_of_methodNamed B.named
  have hlocks := B.notSynchronized
  have hin : meth.name = "<init>" := (name_of_methodNamed B.named B.method).1
  subst hsz
  have hD := hD0.self (sz := s.heap.size)
  generalize hAe : va_A ([(h0, .inr (3, [.null, .int 0]))]) s.heap.size = A at hD ⊢
  have hA : ∀ q : Nat, s.heap.size ≤ q → A q := fun q h => by rw [← hAe]; exact Or.inr h
  have hS : va_S A s.heap s.heap [] := va_S.rf
  have hP : va_P (dC, dI) vwCl [(h0, .inr (3, [.null, .int 0]))] s.heap := hP
  have hD : va_D A [(h0, .inr (3, [.null, .int 0]))] := hD
  have hl := lv_entry ([.ref h0]) (n := 1) (Nat.le_of_ble_eq_true rfl)
  rw [lg_entry_eq]
  generalize (lg_sl ([.ref h0]) ++ List.replicate (1 - (lg_sl ([.ref h0])).length) Slot.unset).toArray = ls at hl ⊢
  have hl : lv_has ls 1 [(0, .ref h0)] := hl
  skip
  refine lv_aload_n hx hb dIn_init_0 rfl (lv_at hl 0 rfl) ?_
  refine W.objInit hx hb hown (hq _ wt_50) (hq _ wt_25) (hq _ wt_26) rfl (by rw [hml]; exact hl.1) rfl dIn_init_1 (Nat.le_of_ble_eq_true rfl) (Nat.le_of_ble_eq_true rfl) ?_
  refine W.eq (g2 := F0 m 4 ls []) rfl ?_
  refine lv_aload_n hx hb dIn_init_4 rfl (lv_at hl 0 rfl) ?_
  refine lv_bipush (v := 60) hx hb dIn_init_5 (by decide) ?_
  have h_1 : 0 + 1 ≤ 1 := by decide
  have h_2 : 0 + 60 ≤ 60 := by decide
  refine va_newa (atype := .int) (N' := 60) (a0 := (60, .inl (fun _ => 0))) (ty := .int) (n := 60) hx hb (hq _ wt_44) rfl hK hP hD hS hA (fun _ => rfl) (by decide) (by decide) (by decide) h_1 h_2 dIn_init_7 (fun q7 cq7 H hK hP hD hS => ?_)
  have hP : va_P (dC, dI) vwCl [(h0, .inr (3, [.null, .int 0])), (q7, .inl (cq7, 60, .inl (fun _ => 0)))] H := hP
  have hD : va_D A [(h0, .inr (3, [.null, .int 0])), (q7, .inl (cq7, 60, .inl (fun _ => 0)))] := hD
  have hK : va_K (dC, dI) vwCl [(cq7, .int)] s := hK
  refine W.widen (k := 1) (n := 60) (by decide) (by decide) ?_
  refine va_putF (D := (dC, dI)) (ci := 3) (v := .ref q7) (ty := (.array .int)) (C := "StepCourt$Inbox") (T := TIn) (N := 2) hx hb hq inIn tyIn tyIn_ok nmIn hown hK hP hD hS 0 rfl rfl 0 (by decide) (hq _ wt_51) (fun _ h9 => h9) rfl hin rfl (by decide +kernel) rfl rfl (Nat.le_of_ble_eq_true rfl) dIn_init_9 (fun H locs hP hD hS => ?_)
  have hP : va_P (dC, dI) vwCl [(h0, ce_In q7 0), (q7, .inl (cq7, 60, .inl (fun _ => 0)))] H := hP
  have hD : va_D A [(h0, ce_In q7 0), (q7, .inl (cq7, 60, .inl (fun _ => 0)))] := hD
  have hP9 := hP.sub (ws' := [(h0, ce_In q7 0), (q7, .inl (cq7, 60, .inl (fun _ => 0)))]) [0, 1] rfl
  have hD9 := hD.sub (ws' := [(h0, ce_In q7 0), (q7, .inl (cq7, 60, .inl (fun _ => 0)))]) [0, 1] (by decide) rfl
  have hK9 := hK.sub (tys' := [(cq7, .int)]) [0] rfl
  refine W.widen (k := 1) (n := 60) (by decide) (by decide) ?_
  exact W.vret hx hb hr (fun t ht hW => ⟨⟨(0, (fun _ => 0)), rfl, hw, q7, cq7, by rw [ht]; exact hP9, va_K.moved hW.alike hK9, hD9⟩, hS.F ht⟩) hS.2.2 dIn_init_12
abbrev xx_Ma_init (dC : Nat → ClassId) (dI : Nat → Nat → Nat) (A : Nat → Prop) (h0 : Nat) (u : ct_Ma × (Nat → Int32) × (Nat → Int64)) (t : State) : Prop := ∃ (h0_cells h0_tree : Nat) (c0_cells c0_tree : ClassId), va_P (dC, dI) vwCl [(h0, ce_Ma h0_cells h0_tree u.1), (h0_cells, .inl (c0_cells, 8, .inl u.2.1)), (h0_tree, .inl (c0_tree, 16, .inr (.inl u.2.2)))] t.heap ∧ va_K (dC, dI) vwCl [(c0_cells, .int), (c0_tree, .long)] t ∧ va_D A [(h0, ce_Ma h0_cells h0_tree u.1), (h0_cells, .inl (c0_cells, 8, .inl u.2.1)), (h0_tree, .inl (c0_tree, 16, .inr (.inl u.2.2)))]
def wp_Ma_init (post : (ct_Ma × (Nat → Int32) × (Nat → Int64)) → Prop) : Prop := post ((0, 0, 0, 0, 0, 0), (fun _ => 0), (fun _ => 0))
set_option maxHeartbeats 4000000 in
set_option maxRecDepth 100000 in
theorem mt_Ma_init (l : Launch) (dC : Nat → ClassId) (dI : Nat → Nat → Nat) (h0 : Nat) (sz : Nat) (post : (ct_Ma × (Nat → Int32) × (Nat → Int64)) → Prop) (hw : wp_Ma_init post) : Met l yMa_init wsMa_init ({ frames := 1, cells := 2, slots := 24, locals := 12 }) (kp_P dC dI [.ref h0] sz ([(h0, .inr (4, [.null, .null, .int 0, .int 0, .int 0, .int 0, .int 0, .long 0]))]) []) (va_Qv post (fun u9 => fun t9 => xx_Ma_init dC dI (va_A ([(h0, .inr (4, [.null, .null, .int 0, .int 0, .int 0, .int 0, .int 0, .long 0]))]) sz) h0 u9 t9) (va_A ([(h0, .inr (4, [.null, .null, .int 0, .int 0, .int 0, .int 0, .int 0, .long 0]))]) sz)) 2 24 (va_A ([(h0, .inr (4, [.null, .null, .int 0, .int 0, .int 0, .int 0, .int 0, .long 0]))]) sz) := by
  refine Met.ofW (cc := cMa_init) (maxL := 1) (ret := none) (by decide) rfl ?_
  intro p e s m args below meth c s₁ B hml hv
  obtain ⟨rfl, hsz, hP, hK, hD0, hZ⟩ := hv
  have hx := B.exec
  have hb := B.bytes
  have hr := B.returns
  have hq : ∀ w ∈ wz, w.before _ s = true := fun w h => atoms_spec (ws := wsMa_init) B.pre w (List.mem_cons_of_mem _ h)
  have hown : s.vm.findClass "StepCourt$Machine" = some m.cls := findClass_of_methodNamed B.named
  have hlocks := B.notSynchronized
  have hin : meth.name = "<init>" := (name_of_methodNamed B.named B.method).1
  subst hsz
  have hD := hD0.self (sz := s.heap.size)
  generalize hAe : va_A ([(h0, .inr (4, [.null, .null, .int 0, .int 0, .int 0, .int 0, .int 0, .long 0]))]) s.heap.size = A at hD ⊢
  have hA : ∀ q : Nat, s.heap.size ≤ q → A q := fun q h => by rw [← hAe]; exact Or.inr h
  have hS : va_S A s.heap s.heap [] := va_S.rf
  have hP : va_P (dC, dI) vwCl [(h0, .inr (4, [.null, .null, .int 0, .int 0, .int 0, .int 0, .int 0, .long 0]))] s.heap := hP
  have hD : va_D A [(h0, .inr (4, [.null, .null, .int 0, .int 0, .int 0, .int 0, .int 0, .long 0]))] := hD
  have hl := lv_entry ([.ref h0]) (n := 1) (Nat.le_of_ble_eq_true rfl)
  rw [lg_entry_eq]
  generalize (lg_sl ([.ref h0]) ++ List.replicate (1 - (lg_sl ([.ref h0])).length) Slot.unset).toArray = ls at hl ⊢
  have hl : lv_has ls 1 [(0, .ref h0)] := hl
  skip
  refine lv_aload_n hx hb dMa_init_0 rfl (lv_at hl 0 rfl) ?_
  refine W.objInit hx hb hown (hq _ wt_64) (hq _ wt_25) (hq _ wt_26) rfl (by rw [hml]; exact hl.1) rfl dMa_init_1 (Nat.le_of_ble_eq_true rfl) (Nat.le_of_ble_eq_true rfl) ?_
  refine W.eq (g2 := F0 m 4 ls []) rfl ?_
  refine lv_aload_n hx hb dMa_init_4 rfl (lv_at hl 0 rfl) ?_
  refine lv_bipush (v := 8) hx hb dMa_init_5 (by decide) ?_
  have h_1 : 0 + 1 ≤ 2 := by decide
  have h_2 : 0 + 8 ≤ 24 := by decide
  refine va_newa (atype := .int) (N' := 8) (a0 := (8, .inl (fun _ => 0))) (ty := .int) (n := 8) hx hb (hq _ wt_44) rfl hK hP hD hS hA (fun _ => rfl) (by decide) (by decide) (by decide) h_1 h_2 dMa_init_7 (fun q7 cq7 H hK hP hD hS => ?_)
  have hP : va_P (dC, dI) vwCl [(h0, .inr (4, [.null, .null, .int 0, .int 0, .int 0, .int 0, .int 0, .long 0])), (q7, .inl (cq7, 8, .inl (fun _ => 0)))] H := hP
  have hD : va_D A [(h0, .inr (4, [.null, .null, .int 0, .int 0, .int 0, .int 0, .int 0, .long 0])), (q7, .inl (cq7, 8, .inl (fun _ => 0)))] := hD
  have hK : va_K (dC, dI) vwCl [(cq7, .int)] s := hK
  refine W.widen (k := 1) (n := 8) (by decide) (by decide) ?_
  refine va_putF (D := (dC, dI)) (ci := 4) (v := .ref q7) (ty := (.array .int)) (C := "StepCourt$Machine") (T := TMa) (N := 8) hx hb hq inMa tyMa tyMa_ok nmMa hown hK hP hD hS 0 rfl rfl 0 (by decide) (hq _ wt_65) (fun _ h9 => h9) rfl hin rfl (by decide +kernel) rfl rfl (Nat.le_of_ble_eq_true rfl) dMa_init_9 (fun H locs hP hD hS => ?_)
  have hP : va_P (dC, dI) vwCl [(h0, .inr (4, [.ref q7, .null, .int 0, .int 0, .int 0, .int 0, .int 0, .long 0])), (q7, .inl (cq7, 8, .inl (fun _ => 0)))] H := hP
  have hD : va_D A [(h0, .inr (4, [.ref q7, .null, .int 0, .int 0, .int 0, .int 0, .int 0, .long 0])), (q7, .inl (cq7, 8, .inl (fun _ => 0)))] := hD
  refine lv_aload_n hx hb dMa_init_12 rfl (lv_at hl 0 rfl) ?_
  refine lv_bipush (v := 16) hx hb dMa_init_13 (by decide) ?_
  have h_1 : 1 + 1 ≤ 2 := by decide
  have h_2 : 8 + 16 ≤ 24 := by decide
  refine va_newa (atype := .long) (N' := 16) (a0 := (16, .inr (.inl (fun _ => 0)))) (ty := .long) (n := 16) hx hb (hq _ wt_104) rfl hK hP hD hS hA (fun _ => rfl) (by decide) (by decide) (by decide) h_1 h_2 dMa_init_15 (fun q15 cq15 H hK hP hD hS => ?_)
  have hP : va_P (dC, dI) vwCl [(h0, .inr (4, [.ref q7, .null, .int 0, .int 0, .int 0, .int 0, .int 0, .long 0])), (q7, .inl (cq7, 8, .inl (fun _ => 0))), (q15, .inl (cq15, 16, .inr (.inl (fun _ => 0))))] H := hP
  have hD : va_D A [(h0, .inr (4, [.ref q7, .null, .int 0, .int 0, .int 0, .int 0, .int 0, .long 0])), (q7, .inl (cq7, 8, .inl (fun _ => 0))), (q15, .inl (cq15, 16, .inr (.inl (fun _ => 0))))] := hD
  have hK : va_K (dC, dI) vwCl [(cq7, .int), (cq15, .long)] s := hK
  refine W.widen (k := 2) (n := 24) (by decide) (by decide) ?_
  refine va_putF (D := (dC, dI)) (ci := 4) (v := .ref q15) (ty := (.array .long)) (C := "StepCourt$Machine") (T := TMa) (N := 8) hx hb hq inMa tyMa tyMa_ok nmMa hown hK hP hD hS 0 rfl rfl 1 (by decide) (hq _ wt_67) (fun _ h9 => h9) rfl hin rfl (by decide +kernel) rfl rfl (Nat.le_of_ble_eq_true rfl) dMa_init_17 (fun H locs hP hD hS => ?_)
  have hP : va_P (dC, dI) vwCl [(h0, ce_Ma q7 q15 (0, 0, 0, 0, 0, 0)), (q7, .inl (cq7, 8, .inl (fun _ => 0))), (q15, .inl (cq15, 16, .inr (.inl (fun _ => 0))))] H := hP
  have hD : va_D A [(h0, ce_Ma q7 q15 (0, 0, 0, 0, 0, 0)), (q7, .inl (cq7, 8, .inl (fun _ => 0))), (q15, .inl (cq15, 16, .inr (.inl (fun _ => 0))))] := hD
  have hP9 := hP.sub (ws' := [(h0, ce_Ma q7 q15 (0, 0, 0, 0, 0, 0)), (q7, .inl (cq7, 8, .inl (fun _ => 0))), (q15, .inl (cq15, 16, .inr (.inl (fun _ => 0))))]) [0, 1, 2] rfl
  have hD9 := hD.sub (ws' := [(h0, ce_Ma q7 q15 (0, 0, 0, 0, 0, 0)), (q7, .inl (cq7, 8, .inl (fun _ => 0))), (q15, .inl (cq15, 16, .inr (.inl (fun _ => 0))))]) [0, 1, 2] (by decide) rfl
  have hK9 := hK.sub (tys' := [(cq7, .int), (cq15, .long)]) [0, 1] rfl
  refine W.widen (k := 2) (n := 24) (by decide) (by decide) ?_
  exact W.vret hx hb hr (fun t ht hW => ⟨⟨((0, 0, 0, 0, 0, 0), (fun _ => 0), (fun _ => 0)), rfl, hw, q7, q15, cq7, cq15, by rw [ht]; exact hP9, va_K.moved hW.alike hK9, hD9⟩, hS.F ht⟩) hS.2.2 dMa_init_20
abbrev xx_Pa_init (dC : Nat → ClassId) (dI : Nat → Nat → Nat) (A : Nat → Prop) (h0 : Nat) (u : ct_Pa × (Nat → Int32) × (Nat → Int32) × (Nat → Int32)) (t : State) : Prop := ∃ (h0_receivers h0_amounts h0_drawn : Nat) (c0_receivers c0_amounts c0_drawn : ClassId), va_P (dC, dI) vwCl [(h0, ce_Pa h0_receivers h0_amounts h0_drawn u.1), (h0_receivers, .inl (c0_receivers, 30, .inl u.2.1)), (h0_amounts, .inl (c0_amounts, 30, .inl u.2.2.1)), (h0_drawn, .inl (c0_drawn, 30, .inl u.2.2.2))] t.heap ∧ va_K (dC, dI) vwCl [(c0_receivers, .int), (c0_amounts, .int), (c0_drawn, .boolean)] t ∧ va_D A [(h0, ce_Pa h0_receivers h0_amounts h0_drawn u.1), (h0_receivers, .inl (c0_receivers, 30, .inl u.2.1)), (h0_amounts, .inl (c0_amounts, 30, .inl u.2.2.1)), (h0_drawn, .inl (c0_drawn, 30, .inl u.2.2.2))]
def wp_Pa_init (post : (ct_Pa × (Nat → Int32) × (Nat → Int32) × (Nat → Int32)) → Prop) : Prop := post (0, (fun _ => 0), (fun _ => 0), (fun _ => 0))
set_option maxHeartbeats 4000000 in
set_option maxRecDepth 100000 in
theorem mt_Pa_init (l : Launch) (dC : Nat → ClassId) (dI : Nat → Nat → Nat) (h0 : Nat) (sz : Nat) (post : (ct_Pa × (Nat → Int32) × (Nat → Int32) × (Nat → Int32)) → Prop) (hw : wp_Pa_init post) : Met l yPa_init wsPa_init ({ frames := 1, cells := 3, slots := 90, locals := 12 }) (kp_P dC dI [.ref h0] sz ([(h0, .inr (5, [.null, .null, .null, .int 0]))]) []) (va_Qv post (fun u9 => fun t9 => xx_Pa_init dC dI (va_A ([(h0, .inr (5, [.null, .null, .null, .int 0]))]) sz) h0 u9 t9) (va_A ([(h0, .inr (5, [.null, .null, .null, .int 0]))]) sz)) 3 90 (va_A ([(h0, .inr (5, [.null, .null, .null, .int 0]))]) sz) := by
  refine Met.ofW (cc := cPa_init) (maxL := 1) (ret := none) (by decide) rfl ?_
  intro p e s m args below meth c s₁ B hml hv
  obtain ⟨rfl, hsz, hP, hK, hD0, hZ⟩ := hv
  have hx := B.exec
  have hb := B.bytes
  have hr := B.returns
  have hq : ∀ w ∈ wz, w.before _ s = true := fun w h => atoms_spec (ws := wsPa_init) B.pre w (List.mem_cons_of_mem _ h)
  have hown : s.vm.findClass "StepCourt$Payments" = some m.cls := findClass_of_methodNamed B.named
  have hlocks := B.notSynchronized
  have hin : meth.name = "<init>" := (name_of_methodNamed B.named B.method).1
  subst hsz
  have hD := hD0.self (sz := s.heap.size)
  generalize hAe : va_A ([(h0, .inr (5, [.null, .null, .null, .int 0]))]) s.heap.size = A at hD ⊢
  have hA : ∀ q : Nat, s.heap.size ≤ q → A q := fun q h => by rw [← hAe]; exact Or.inr h
  have hS : va_S A s.heap s.heap [] := va_S.rf
  have hP : va_P (dC, dI) vwCl [(h0, .inr (5, [.null, .null, .null, .int 0]))] s.heap := hP
  have hD : va_D A [(h0, .inr (5, [.null, .null, .null, .int 0]))] := hD
  have hl := lv_entry ([.ref h0]) (n := 1) (Nat.le_of_ble_eq_true rfl)
  rw [lg_entry_eq]
  generalize (lg_sl ([.ref h0]) ++ List.replicate (1 - (lg_sl ([.ref h0])).length) Slot.unset).toArray = ls at hl ⊢
  have hl : lv_has ls 1 [(0, .ref h0)] := hl
  skip
  refine lv_aload_n hx hb dPa_init_0 rfl (lv_at hl 0 rfl) ?_
  refine W.objInit hx hb hown (hq _ wt_110) (hq _ wt_25) (hq _ wt_26) rfl (by rw [hml]; exact hl.1) rfl dPa_init_1 (Nat.le_of_ble_eq_true rfl) (Nat.le_of_ble_eq_true rfl) ?_
  refine W.eq (g2 := F0 m 4 ls []) rfl ?_
  refine lv_aload_n hx hb dPa_init_4 rfl (lv_at hl 0 rfl) ?_
  refine lv_bipush (v := 30) hx hb dPa_init_5 (by decide) ?_
  have h_1 : 0 + 1 ≤ 3 := by decide
  have h_2 : 0 + 30 ≤ 90 := by decide
  refine va_newa (atype := .int) (N' := 30) (a0 := (30, .inl (fun _ => 0))) (ty := .int) (n := 30) hx hb (hq _ wt_44) rfl hK hP hD hS hA (fun _ => rfl) (by decide) (by decide) (by decide) h_1 h_2 dPa_init_7 (fun q7 cq7 H hK hP hD hS => ?_)
  have hP : va_P (dC, dI) vwCl [(h0, .inr (5, [.null, .null, .null, .int 0])), (q7, .inl (cq7, 30, .inl (fun _ => 0)))] H := hP
  have hD : va_D A [(h0, .inr (5, [.null, .null, .null, .int 0])), (q7, .inl (cq7, 30, .inl (fun _ => 0)))] := hD
  have hK : va_K (dC, dI) vwCl [(cq7, .int)] s := hK
  refine W.widen (k := 1) (n := 30) (by decide) (by decide) ?_
  refine va_putF (D := (dC, dI)) (ci := 5) (v := .ref q7) (ty := (.array .int)) (C := "StepCourt$Payments") (T := TPa) (N := 4) hx hb hq inPa tyPa tyPa_ok nmPa hown hK hP hD hS 0 rfl rfl 0 (by decide) (hq _ wt_111) (fun _ h9 => h9) rfl hin rfl (by decide +kernel) rfl rfl (Nat.le_of_ble_eq_true rfl) dPa_init_9 (fun H locs hP hD hS => ?_)
  have hP : va_P (dC, dI) vwCl [(h0, .inr (5, [.ref q7, .null, .null, .int 0])), (q7, .inl (cq7, 30, .inl (fun _ => 0)))] H := hP
  have hD : va_D A [(h0, .inr (5, [.ref q7, .null, .null, .int 0])), (q7, .inl (cq7, 30, .inl (fun _ => 0)))] := hD
  refine lv_aload_n hx hb dPa_init_12 rfl (lv_at hl 0 rfl) ?_
  refine lv_bipush (v := 30) hx hb dPa_init_13 (by decide) ?_
  have h_1 : 1 + 1 ≤ 3 := by decide
  have h_2 : 30 + 30 ≤ 90 := by decide
  refine va_newa (atype := .int) (N' := 30) (a0 := (30, .inl (fun _ => 0))) (ty := .int) (n := 30) hx hb (hq _ wt_44) rfl hK hP hD hS hA (fun _ => rfl) (by decide) (by decide) (by decide) h_1 h_2 dPa_init_15 (fun q15 cq15 H hK hP hD hS => ?_)
  have hP : va_P (dC, dI) vwCl [(h0, .inr (5, [.ref q7, .null, .null, .int 0])), (q7, .inl (cq7, 30, .inl (fun _ => 0))), (q15, .inl (cq15, 30, .inl (fun _ => 0)))] H := hP
  have hD : va_D A [(h0, .inr (5, [.ref q7, .null, .null, .int 0])), (q7, .inl (cq7, 30, .inl (fun _ => 0))), (q15, .inl (cq15, 30, .inl (fun _ => 0)))] := hD
  have hK : va_K (dC, dI) vwCl [(cq7, .int), (cq15, .int)] s := hK
  refine W.widen (k := 2) (n := 60) (by decide) (by decide) ?_
  refine va_putF (D := (dC, dI)) (ci := 5) (v := .ref q15) (ty := (.array .int)) (C := "StepCourt$Payments") (T := TPa) (N := 4) hx hb hq inPa tyPa tyPa_ok nmPa hown hK hP hD hS 0 rfl rfl 1 (by decide) (hq _ wt_113) (fun _ h9 => h9) rfl hin rfl (by decide +kernel) rfl rfl (Nat.le_of_ble_eq_true rfl) dPa_init_17 (fun H locs hP hD hS => ?_)
  have hP : va_P (dC, dI) vwCl [(h0, .inr (5, [.ref q7, .ref q15, .null, .int 0])), (q7, .inl (cq7, 30, .inl (fun _ => 0))), (q15, .inl (cq15, 30, .inl (fun _ => 0)))] H := hP
  have hD : va_D A [(h0, .inr (5, [.ref q7, .ref q15, .null, .int 0])), (q7, .inl (cq7, 30, .inl (fun _ => 0))), (q15, .inl (cq15, 30, .inl (fun _ => 0)))] := hD
  refine lv_aload_n hx hb dPa_init_20 rfl (lv_at hl 0 rfl) ?_
  refine lv_bipush (v := 30) hx hb dPa_init_21 (by decide) ?_
  have h_1 : 2 + 1 ≤ 3 := by decide
  have h_2 : 60 + 30 ≤ 90 := by decide
  refine va_newa (atype := .boolean) (N' := 30) (a0 := (30, .inl (fun _ => 0))) (ty := .boolean) (n := 30) hx hb (hq _ wt_128) rfl hK hP hD hS hA (fun _ => rfl) (by decide) (by decide) (by decide) h_1 h_2 dPa_init_23 (fun q23 cq23 H hK hP hD hS => ?_)
  have hP : va_P (dC, dI) vwCl [(h0, .inr (5, [.ref q7, .ref q15, .null, .int 0])), (q7, .inl (cq7, 30, .inl (fun _ => 0))), (q15, .inl (cq15, 30, .inl (fun _ => 0))), (q23, .inl (cq23, 30, .inl (fun _ => 0)))] H := hP
  have hD : va_D A [(h0, .inr (5, [.ref q7, .ref q15, .null, .int 0])), (q7, .inl (cq7, 30, .inl (fun _ => 0))), (q15, .inl (cq15, 30, .inl (fun _ => 0))), (q23, .inl (cq23, 30, .inl (fun _ => 0)))] := hD
  have hK : va_K (dC, dI) vwCl [(cq7, .int), (cq15, .int), (cq23, .boolean)] s := hK
  refine W.widen (k := 3) (n := 90) (by decide) (by decide) ?_
  refine va_putF (D := (dC, dI)) (ci := 5) (v := .ref q23) (ty := (.array .boolean)) (C := "StepCourt$Payments") (T := TPa) (N := 4) hx hb hq inPa tyPa tyPa_ok nmPa hown hK hP hD hS 0 rfl rfl 2 (by decide) (hq _ wt_115) (fun _ h9 => h9) rfl hin rfl (by decide +kernel) rfl rfl (Nat.le_of_ble_eq_true rfl) dPa_init_25 (fun H locs hP hD hS => ?_)
  have hP : va_P (dC, dI) vwCl [(h0, ce_Pa q7 q15 q23 0), (q7, .inl (cq7, 30, .inl (fun _ => 0))), (q15, .inl (cq15, 30, .inl (fun _ => 0))), (q23, .inl (cq23, 30, .inl (fun _ => 0)))] H := hP
  have hD : va_D A [(h0, ce_Pa q7 q15 q23 0), (q7, .inl (cq7, 30, .inl (fun _ => 0))), (q15, .inl (cq15, 30, .inl (fun _ => 0))), (q23, .inl (cq23, 30, .inl (fun _ => 0)))] := hD
  have hP9 := hP.sub (ws' := [(h0, ce_Pa q7 q15 q23 0), (q7, .inl (cq7, 30, .inl (fun _ => 0))), (q15, .inl (cq15, 30, .inl (fun _ => 0))), (q23, .inl (cq23, 30, .inl (fun _ => 0)))]) [0, 1, 2, 3] rfl
  have hD9 := hD.sub (ws' := [(h0, ce_Pa q7 q15 q23 0), (q7, .inl (cq7, 30, .inl (fun _ => 0))), (q15, .inl (cq15, 30, .inl (fun _ => 0))), (q23, .inl (cq23, 30, .inl (fun _ => 0)))]) [0, 1, 2, 3] (by decide) rfl
  have hK9 := hK.sub (tys' := [(cq7, .int), (cq15, .int), (cq23, .boolean)]) [0, 1, 2] rfl
  refine W.widen (k := 3) (n := 90) (by decide) (by decide) ?_
  exact W.vret hx hb hr (fun t ht hW => ⟨⟨(0, (fun _ => 0), (fun _ => 0), (fun _ => 0)), rfl, hw, q7, q15, q23, cq7, cq15, cq23, by rw [ht]; exact hP9, va_K.moved hW.alike hK9, hD9⟩, hS.F ht⟩) hS.2.2 dPa_init_28
abbrev xx_Pr_init (dC : Nat → ClassId) (dI : Nat → Nat → Nat) (A : Nat → Prop) (h0 : Nat) (u : ct_Pr × ct_Ma × (Nat → Int32) × (Nat → Int64) × (Nat → Int64)) (t : State) : Prop := ∃ (h0_given h0_given_cells h0_given_tree h0_others : Nat) (c0_given_cells c0_given_tree c0_others : ClassId), va_P (dC, dI) vwCl [(h0, ce_Pr h0_given h0_others u.1), (h0_given, ce_Ma h0_given_cells h0_given_tree u.2.1), (h0_given_cells, .inl (c0_given_cells, 8, .inl u.2.2.1)), (h0_given_tree, .inl (c0_given_tree, 16, .inr (.inl u.2.2.2.1))), (h0_others, .inl (c0_others, 3, .inr (.inl u.2.2.2.2)))] t.heap ∧ va_K (dC, dI) vwCl [(c0_given_cells, .int), (c0_given_tree, .long), (c0_others, .long)] t ∧ va_D A [(h0, ce_Pr h0_given h0_others u.1), (h0_given, ce_Ma h0_given_cells h0_given_tree u.2.1), (h0_given_cells, .inl (c0_given_cells, 8, .inl u.2.2.1)), (h0_given_tree, .inl (c0_given_tree, 16, .inr (.inl u.2.2.2.1))), (h0_others, .inl (c0_others, 3, .inr (.inl u.2.2.2.2)))]
def wp_Pr_init (post : (ct_Pr × ct_Ma × (Nat → Int32) × (Nat → Int64) × (Nat → Int64)) → Prop) : Prop := wp_Ma_init (fun u2 => (post ((0, 0), u2.1, u2.2.1, u2.2.2, (fun _ => 0)))) 
set_option maxHeartbeats 4000000 in
set_option maxRecDepth 100000 in
theorem mt_Pr_init (l : Launch) (dC : Nat → ClassId) (dI : Nat → Nat → Nat) (h0 : Nat) (sz : Nat) (post : (ct_Pr × ct_Ma × (Nat → Int32) × (Nat → Int64) × (Nat → Int64)) → Prop) (hw : wp_Pr_init post) : Met l yPr_init wsPr_init ({ frames := 2, cells := 4, slots := 35, locals := 32 }) (kp_P dC dI [.ref h0] sz ([(h0, .inr (6, [.null, .null, .int 0, .int 0]))]) []) (va_Qv post (fun u9 => fun t9 => xx_Pr_init dC dI (va_A ([(h0, .inr (6, [.null, .null, .int 0, .int 0]))]) sz) h0 u9 t9) (va_A ([(h0, .inr (6, [.null, .null, .int 0, .int 0]))]) sz)) 4 35 (va_A ([(h0, .inr (6, [.null, .null, .int 0, .int 0]))]) sz) := by
  refine Met.ofW (cc := cPr_init) (maxL := 1) (ret := none) (by decide) rfl ?_
  intro p e s m args below meth c s₁ B hml hv
  obtain ⟨rfl, hsz, hP, hK, hD0, hZ⟩ := hv
  have hx := B.exec
  have hb := B.bytes
  have hr := B.returns
  have hq : ∀ w ∈ wz, w.before _ s = true := fun w h => atoms_spec (ws := wsPr_init) B.pre w (List.mem_cons_of_mem _ h)
  have hown : s.vm.findClass "StepCourt$Proof" = some m.cls := findClass_of_methodNamed B.named
  have hlocks := B.notSynchronized
  have hin : meth.name = "<init>" := (name_of_methodNamed B.named B.method).1
  subst hsz
  have hD := hD0.self (sz := s.heap.size)
  generalize hAe : va_A ([(h0, .inr (6, [.null, .null, .int 0, .int 0]))]) s.heap.size = A at hD ⊢
  have hA : ∀ q : Nat, s.heap.size ≤ q → A q := fun q h => by rw [← hAe]; exact Or.inr h
  have hS : va_S A s.heap s.heap [] := va_S.rf
  have hP : va_P (dC, dI) vwCl [(h0, .inr (6, [.null, .null, .int 0, .int 0]))] s.heap := hP
  have hD : va_D A [(h0, .inr (6, [.null, .null, .int 0, .int 0]))] := hD
  have hl := lv_entry ([.ref h0]) (n := 1) (Nat.le_of_ble_eq_true rfl)
  rw [lg_entry_eq]
  generalize (lg_sl ([.ref h0]) ++ List.replicate (1 - (lg_sl ([.ref h0])).length) Slot.unset).toArray = ls at hl ⊢
  have hl : lv_has ls 1 [(0, .ref h0)] := hl
  skip
  refine lv_aload_n hx hb dPr_init_0 rfl (lv_at hl 0 rfl) ?_
  refine W.objInit hx hb hown (hq _ wt_134) (hq _ wt_25) (hq _ wt_26) rfl (by rw [hml]; exact hl.1) rfl dPr_init_1 (Nat.le_of_ble_eq_true rfl) (Nat.le_of_ble_eq_true rfl) ?_
  refine W.eq (g2 := F0 m 4 ls []) rfl ?_
  refine lv_aload_n hx hb dPr_init_4 rfl (lv_at hl 0 rfl) ?_
  have h_1 : 0 + 1 ≤ 4 := by decide
  have h_2 : 0 + 8 ≤ 35 := by decide
  refine va_new (ci := 4) (fs := [.null, .null, .int 0, .int 0, .int 0, .int 0, .int 0, .long 0]) (C := "StepCourt$Machine") (T := TMa) (N := 8) hx hb hq inMa tyMa tyMa_ok hown (hq _ wt_135) (hq _ wt_60) (hq _ wt_4) hK hP hD hS hA rfl (fun j hj => by rcases (show j = 0 ∨ j = 1 ∨ j = 2 ∨ j = 3 ∨ j = 4 ∨ j = 5 ∨ j = 6 ∨ j = 7 by omega) with rfl | rfl | rfl | rfl | rfl | rfl | rfl | rfl <;> rfl) h_1 h_2 dPr_init_5 (fun q5 H hP hD hS => ?_)
  have hP : va_P (dC, dI) vwCl [(h0, .inr (6, [.null, .null, .int 0, .int 0])), (q5, .inr (4, [.null, .null, .int 0, .int 0, .int 0, .int 0, .int 0, .long 0]))] H := hP
  have hD : va_D A [(h0, .inr (6, [.null, .null, .int 0, .int 0])), (q5, .inr (4, [.null, .null, .int 0, .int 0, .int 0, .int 0, .int 0, .long 0]))] := hD
  refine W.widen (k := 1) (n := 8) (by decide) (by decide) ?_
  refine lv_dup hx hb dPr_init_8 rfl ?_
  have hPc := hP.sub (ws' := [(q5, .inr (4, [.null, .null, .int 0, .int 0, .int 0, .int 0, .int 0, .long 0]))]) [1] rfl
  have hDc := hD.sub (ws' := [(q5, .inr (4, [.null, .null, .int 0, .int 0, .int 0, .int 0, .int 0, .long 0]))]) [1] (by decide) rfl
  have hKc := hK.sub (tys' := []) [] rfl
  have hFc := va_free (wc := [(q5, .inr (4, [.null, .null, .int 0, .int 0, .int 0, .int 0, .int 0, .long 0]))]) hD hS hA [1] rfl
  refine va_callv (va_runIN (As := []) (rest := [.ref q5, .ref h0]) ⟨hx, hb, hml, hown, hq⟩ (mt_Ma_init l dC dI q5 H.size _ hw) ⟨cq_N 0 hq wt_63 (hZ.1 _ zt_136) wt_4 rfl rfl hd_Ma_init ⟨Nat.le_of_ble_eq_true rfl, Nat.le_of_ble_eq_true rfl⟩, rfl, (hq _ wt_62)⟩ ⟨kp_bl, kp_at hPc hKc hDc hZ⟩ rfl rfl hl.1 rfl (lv_room (Nat.le_of_ble_eq_true rfl)) dPr_init_9 ⟨(by decide), (by decide)⟩) hS (fun q _ h => hFc q h) hFc (fun u2 t H1 locs ht hvm hw hB hz1 hk1 hS => ?_)
  obtain ⟨qq3, qq4, cc5, cc6, hP1, hK1, hD1⟩ := hB
  rw [ht] at hP1
  have hK1 := va_K.moved hvm.symm hK1
  obtain ⟨hP, hD⟩ := va_join (wr := [(h0, .inr (6, [.null, .null, .int 0, .int 0]))]) (w1 := [(q5, ce_Ma qq3 qq4 u2.1), (qq3, .inl (cc5, 8, .inl u2.2.1)), (qq4, .inl (cc6, 16, .inr (.inl u2.2.2)))]) hP hD [1] [0] rfl rfl (by decide) (by decide) hk1 hFc hP1 hD1
  have hK := (hK.sub (tys' := []) [] rfl).app hK1
  generalize H1 = H at hP hS ⊢
  have hP : va_P (dC, dI) vwCl [(h0, .inr (6, [.null, .null, .int 0, .int 0])), (q5, ce_Ma qq3 qq4 u2.1), (qq3, .inl (cc5, 8, .inl u2.2.1)), (qq4, .inl (cc6, 16, .inr (.inl u2.2.2)))] H := hP
  have hD : va_D A [(h0, .inr (6, [.null, .null, .int 0, .int 0])), (q5, ce_Ma qq3 qq4 u2.1), (qq3, .inl (cc5, 8, .inl u2.2.1)), (qq4, .inl (cc6, 16, .inr (.inl u2.2.2)))] := hD
  have hK : va_K (dC, dI) vwCl [(cc5, .int), (cc6, .long)] s := hK
  refine W.widen (k := 3) (n := 32) (by decide) (by decide) ?_
  refine va_putF (D := (dC, dI)) (ci := 6) (v := .ref q5) (ty := (.object "StepCourt$Machine")) (C := "StepCourt$Proof") (T := TPr) (N := 4) hx hb hq inPr tyPr tyPr_ok nmPr hown hK hP hD hS 0 rfl rfl 0 (by decide) (hq _ wt_137) (fun _ h9 => h9) rfl hin rfl (by decide +kernel) rfl rfl (Nat.le_of_ble_eq_true rfl) dPr_init_12 (fun H locs hP hD hS => ?_)
  have hP : va_P (dC, dI) vwCl [(h0, .inr (6, [.ref q5, .null, .int 0, .int 0])), (q5, ce_Ma qq3 qq4 u2.1), (qq3, .inl (cc5, 8, .inl u2.2.1)), (qq4, .inl (cc6, 16, .inr (.inl u2.2.2)))] H := hP
  have hD : va_D A [(h0, .inr (6, [.ref q5, .null, .int 0, .int 0])), (q5, ce_Ma qq3 qq4 u2.1), (qq3, .inl (cc5, 8, .inl u2.2.1)), (qq4, .inl (cc6, 16, .inr (.inl u2.2.2)))] := hD
  refine lv_aload_n hx hb dPr_init_15 rfl (lv_at hl 0 rfl) ?_
  refine lv_iconst (v := 3) hx hb dPr_init_16 (by decide) ?_
  have h_1 : 3 + 1 ≤ 4 := by decide
  have h_2 : 32 + 3 ≤ 35 := by decide
  refine va_newa (atype := .long) (N' := 3) (a0 := (3, .inr (.inl (fun _ => 0)))) (ty := .long) (n := 3) hx hb (hq _ wt_104) rfl hK hP hD hS hA (fun _ => rfl) (by decide) (by decide) (by decide) h_1 h_2 dPr_init_17 (fun q17 cq17 H hK hP hD hS => ?_)
  have hP : va_P (dC, dI) vwCl [(h0, .inr (6, [.ref q5, .null, .int 0, .int 0])), (q5, ce_Ma qq3 qq4 u2.1), (qq3, .inl (cc5, 8, .inl u2.2.1)), (qq4, .inl (cc6, 16, .inr (.inl u2.2.2))), (q17, .inl (cq17, 3, .inr (.inl (fun _ => 0))))] H := hP
  have hD : va_D A [(h0, .inr (6, [.ref q5, .null, .int 0, .int 0])), (q5, ce_Ma qq3 qq4 u2.1), (qq3, .inl (cc5, 8, .inl u2.2.1)), (qq4, .inl (cc6, 16, .inr (.inl u2.2.2))), (q17, .inl (cq17, 3, .inr (.inl (fun _ => 0))))] := hD
  have hK : va_K (dC, dI) vwCl [(cc5, .int), (cc6, .long), (cq17, .long)] s := hK
  refine W.widen (k := 4) (n := 35) (by decide) (by decide) ?_
  refine va_putF (D := (dC, dI)) (ci := 6) (v := .ref q17) (ty := (.array .long)) (C := "StepCourt$Proof") (T := TPr) (N := 4) hx hb hq inPr tyPr tyPr_ok nmPr hown hK hP hD hS 0 rfl rfl 1 (by decide) (hq _ wt_139) (fun _ h9 => h9) rfl hin rfl (by decide +kernel) rfl rfl (Nat.le_of_ble_eq_true rfl) dPr_init_19 (fun H locs hP hD hS => ?_)
  have hP : va_P (dC, dI) vwCl [(h0, ce_Pr q5 q17 (0, 0)), (q5, ce_Ma qq3 qq4 u2.1), (qq3, .inl (cc5, 8, .inl u2.2.1)), (qq4, .inl (cc6, 16, .inr (.inl u2.2.2))), (q17, .inl (cq17, 3, .inr (.inl (fun _ => 0))))] H := hP
  have hD : va_D A [(h0, ce_Pr q5 q17 (0, 0)), (q5, ce_Ma qq3 qq4 u2.1), (qq3, .inl (cc5, 8, .inl u2.2.1)), (qq4, .inl (cc6, 16, .inr (.inl u2.2.2))), (q17, .inl (cq17, 3, .inr (.inl (fun _ => 0))))] := hD
  have hP9 := hP.sub (ws' := [(h0, ce_Pr q5 q17 (0, 0)), (q5, ce_Ma qq3 qq4 u2.1), (qq3, .inl (cc5, 8, .inl u2.2.1)), (qq4, .inl (cc6, 16, .inr (.inl u2.2.2))), (q17, .inl (cq17, 3, .inr (.inl (fun _ => 0))))]) [0, 1, 2, 3, 4] rfl
  have hD9 := hD.sub (ws' := [(h0, ce_Pr q5 q17 (0, 0)), (q5, ce_Ma qq3 qq4 u2.1), (qq3, .inl (cc5, 8, .inl u2.2.1)), (qq4, .inl (cc6, 16, .inr (.inl u2.2.2))), (q17, .inl (cq17, 3, .inr (.inl (fun _ => 0))))]) [0, 1, 2, 3, 4] (by decide) rfl
  have hK9 := hK.sub (tys' := [(cc5, .int), (cc6, .long), (cq17, .long)]) [0, 1, 2] rfl
  refine W.widen (k := 4) (n := 35) (by decide) (by decide) ?_
  exact W.vret hx hb hr (fun t ht hW => ⟨⟨((0, 0), u2.1, u2.2.1, u2.2.2, (fun _ => 0)), rfl, hw, q5, qq3, qq4, q17, cc5, cc6, cq17, by rw [ht]; exact hP9, va_K.moved hW.alike hK9, hD9⟩, hS.F ht⟩) hS.2.2 dPr_init_22
