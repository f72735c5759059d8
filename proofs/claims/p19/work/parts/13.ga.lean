theorem dGa_clearMiddle_0 : decode cGa_clearMiddle 0 = .ok (.aload_n 0, 1) := by decide +kernel
theorem dGa_clearMiddle_1 : decode cGa_clearMiddle 1 = .ok (.lconst 0, 1) := by decide +kernel
theorem dGa_clearMiddle_2 : decode cGa_clearMiddle 2 = .ok (.putfield 38, 3) := by decide +kernel
theorem dGa_clearMiddle_5 : decode cGa_clearMiddle 5 = .ok (.aload_n 0, 1) := by decide +kernel
theorem dGa_clearMiddle_6 : decode cGa_clearMiddle 6 = .ok (.iconst 0, 1) := by decide +kernel
theorem dGa_clearMiddle_7 : decode cGa_clearMiddle 7 = .ok (.putfield 41, 3) := by decide +kernel
theorem dGa_clearMiddle_10 : decode cGa_clearMiddle 10 = .ok (.return_, 1) := by decide +kernel
theorem dGa_begin_0 : decode cGa_begin 0 = .ok (.aload_n 0, 1) := by decide +kernel
theorem dGa_begin_1 : decode cGa_begin 1 = .ok (.iload_n 1, 1) := by decide +kernel
theorem dGa_begin_2 : decode cGa_begin 2 = .ok (.putfield 9, 3) := by decide +kernel
theorem dGa_begin_5 : decode cGa_begin 5 = .ok (.aload_n 0, 1) := by decide +kernel
theorem dGa_begin_6 : decode cGa_begin 6 = .ok (.iconst 0, 1) := by decide +kernel
theorem dGa_begin_7 : decode cGa_begin 7 = .ok (.putfield 15, 3) := by decide +kernel
theorem dGa_begin_10 : decode cGa_begin 10 = .ok (.aload_n 0, 1) := by decide +kernel
theorem dGa_begin_11 : decode cGa_begin 11 = .ok (.iload_n 2, 1) := by decide +kernel
theorem dGa_begin_12 : decode cGa_begin 12 = .ok (.putfield 18, 3) := by decide +kernel
theorem dGa_begin_15 : decode cGa_begin 15 = .ok (.aload_n 0, 1) := by decide +kernel
theorem dGa_begin_16 : decode cGa_begin 16 = .ok (.lload_n 3, 1) := by decide +kernel
theorem dGa_begin_17 : decode cGa_begin 17 = .ok (.putfield 21, 3) := by decide +kernel
theorem dGa_begin_20 : decode cGa_begin 20 = .ok (.aload_n 0, 1) := by decide +kernel
theorem dGa_begin_21 : decode cGa_begin 21 = .ok (.lload 5, 2) := by decide +kernel
theorem dGa_begin_23 : decode cGa_begin 23 = .ok (.putfield 25, 3) := by decide +kernel
theorem dGa_begin_26 : decode cGa_begin 26 = .ok (.aload_n 0, 1) := by decide +kernel
theorem dGa_begin_27 : decode cGa_begin 27 = .ok (.invokevirtual 28, 3) := by decide +kernel
theorem dGa_begin_30 : decode cGa_begin 30 = .ok (.aload_n 0, 1) := by decide +kernel
theorem dGa_begin_31 : decode cGa_begin 31 = .ok (.iconst 1, 1) := by decide +kernel
theorem dGa_begin_32 : decode cGa_begin 32 = .ok (.putfield 31, 3) := by decide +kernel
theorem dGa_begin_35 : decode cGa_begin 35 = .ok (.return_, 1) := by decide +kernel
theorem dGa_setDeadline_0 : decode cGa_setDeadline 0 = .ok (.aload_n 0, 1) := by decide +kernel
theorem dGa_setDeadline_1 : decode cGa_setDeadline 1 = .ok (.iload_n 1, 1) := by decide +kernel
theorem dGa_setDeadline_2 : decode cGa_setDeadline 2 = .ok (.iconst 4, 1) := by decide +kernel
theorem dGa_setDeadline_3 : decode cGa_setDeadline 3 = .ok (.iadd, 1) := by decide +kernel
theorem dGa_setDeadline_4 : decode cGa_setDeadline 4 = .ok (.putfield 35, 3) := by decide +kernel
theorem dGa_setDeadline_7 : decode cGa_setDeadline 7 = .ok (.return_, 1) := by decide +kernel
theorem dGa_middleStep_0 : decode cGa_middleStep 0 = .ok (.aload_n 0, 1) := by decide +kernel
theorem dGa_middleStep_1 : decode cGa_middleStep 1 = .ok (.getfield 15, 3) := by decide +kernel
theorem dGa_middleStep_4 : decode cGa_middleStep 4 = .ok (.aload_n 0, 1) := by decide +kernel
theorem dGa_middleStep_5 : decode cGa_middleStep 5 = .ok (.getfield 18, 3) := by decide +kernel
theorem dGa_middleStep_8 : decode cGa_middleStep 8 = .ok (.iadd, 1) := by decide +kernel
theorem dGa_middleStep_9 : decode cGa_middleStep 9 = .ok (.iconst 2, 1) := by decide +kernel
theorem dGa_middleStep_10 : decode cGa_middleStep 10 = .ok (.idiv, 1) := by decide +kernel
theorem dGa_middleStep_11 : decode cGa_middleStep 11 = .ok (.ireturn, 1) := by decide +kernel
theorem dGa_setMiddle_0 : decode cGa_setMiddle 0 = .ok (.aload_n 0, 1) := by decide +kernel
theorem dGa_setMiddle_1 : decode cGa_setMiddle 1 = .ok (.lload_n 1, 1) := by decide +kernel
theorem dGa_setMiddle_2 : decode cGa_setMiddle 2 = .ok (.putfield 38, 3) := by decide +kernel
theorem dGa_setMiddle_5 : decode cGa_setMiddle 5 = .ok (.aload_n 0, 1) := by decide +kernel
theorem dGa_setMiddle_6 : decode cGa_setMiddle 6 = .ok (.iconst 1, 1) := by decide +kernel
theorem dGa_setMiddle_7 : decode cGa_setMiddle 7 = .ok (.putfield 41, 3) := by decide +kernel
theorem dGa_setMiddle_10 : decode cGa_setMiddle 10 = .ok (.return_, 1) := by decide +kernel
theorem dGa_halve_0 : decode cGa_halve 0 = .ok (.iload_n 1, 1) := by decide +kernel
theorem dGa_halve_1 : decode cGa_halve 1 = .ok (.ifCond .eq 22, 3) := by decide +kernel
theorem dGa_halve_4 : decode cGa_halve 4 = .ok (.aload_n 0, 1) := by decide +kernel
theorem dGa_halve_5 : decode cGa_halve 5 = .ok (.aload_n 0, 1) := by decide +kernel
theorem dGa_halve_6 : decode cGa_halve 6 = .ok (.invokevirtual 44, 3) := by decide +kernel
theorem dGa_halve_9 : decode cGa_halve 9 = .ok (.putfield 18, 3) := by decide +kernel
theorem dGa_halve_12 : decode cGa_halve 12 = .ok (.aload_n 0, 1) := by decide +kernel
theorem dGa_halve_13 : decode cGa_halve 13 = .ok (.aload_n 0, 1) := by decide +kernel
theorem dGa_halve_14 : decode cGa_halve 14 = .ok (.getfield 38, 3) := by decide +kernel
theorem dGa_halve_17 : decode cGa_halve 17 = .ok (.putfield 25, 3) := by decide +kernel
theorem dGa_halve_20 : decode cGa_halve 20 = .ok (.goto 19, 3) := by decide +kernel
theorem dGa_halve_23 : decode cGa_halve 23 = .ok (.aload_n 0, 1) := by decide +kernel
theorem dGa_halve_24 : decode cGa_halve 24 = .ok (.aload_n 0, 1) := by decide +kernel
theorem dGa_halve_25 : decode cGa_halve 25 = .ok (.invokevirtual 44, 3) := by decide +kernel
theorem dGa_halve_28 : decode cGa_halve 28 = .ok (.putfield 15, 3) := by decide +kernel
theorem dGa_halve_31 : decode cGa_halve 31 = .ok (.aload_n 0, 1) := by decide +kernel
theorem dGa_halve_32 : decode cGa_halve 32 = .ok (.aload_n 0, 1) := by decide +kernel
theorem dGa_halve_33 : decode cGa_halve 33 = .ok (.getfield 38, 3) := by decide +kernel
theorem dGa_halve_36 : decode cGa_halve 36 = .ok (.putfield 21, 3) := by decide +kernel
theorem dGa_halve_39 : decode cGa_halve 39 = .ok (.aload_n 0, 1) := by decide +kernel
theorem dGa_halve_40 : decode cGa_halve 40 = .ok (.invokevirtual 28, 3) := by decide +kernel
theorem dGa_halve_43 : decode cGa_halve 43 = .ok (.return_, 1) := by decide +kernel
theorem dGa_duty_0 : decode cGa_duty 0 = .ok (.aload_n 0, 1) := by decide +kernel
theorem dGa_duty_1 : decode cGa_duty 1 = .ok (.getfield 31, 3) := by decide +kernel
theorem dGa_duty_4 : decode cGa_duty 4 = .ok (.ifCond .ne 5, 3) := by decide +kernel
theorem dGa_duty_7 : decode cGa_duty 7 = .ok (.iconst 0, 1) := by decide +kernel
theorem dGa_duty_8 : decode cGa_duty 8 = .ok (.ireturn, 1) := by decide +kernel
theorem dGa_duty_9 : decode cGa_duty 9 = .ok (.aload_n 0, 1) := by decide +kernel
theorem dGa_duty_10 : decode cGa_duty 10 = .ok (.getfield 18, 3) := by decide +kernel
theorem dGa_duty_13 : decode cGa_duty 13 = .ok (.aload_n 0, 1) := by decide +kernel
theorem dGa_duty_14 : decode cGa_duty 14 = .ok (.getfield 15, 3) := by decide +kernel
theorem dGa_duty_17 : decode cGa_duty 17 = .ok (.isub, 1) := by decide +kernel
theorem dGa_duty_18 : decode cGa_duty 18 = .ok (.iconst 1, 1) := by decide +kernel
theorem dGa_duty_19 : decode cGa_duty 19 = .ok (.if_icmp .gt 5, 3) := by decide +kernel
theorem dGa_duty_22 : decode cGa_duty 22 = .ok (.iconst 3, 1) := by decide +kernel
theorem dGa_duty_23 : decode cGa_duty 23 = .ok (.ireturn, 1) := by decide +kernel
theorem dGa_duty_24 : decode cGa_duty 24 = .ok (.aload_n 0, 1) := by decide +kernel
theorem dGa_duty_25 : decode cGa_duty 25 = .ok (.getfield 41, 3) := by decide +kernel
theorem dGa_duty_28 : decode cGa_duty 28 = .ok (.ifCond .eq 7, 3) := by decide +kernel
theorem dGa_duty_31 : decode cGa_duty 31 = .ok (.iconst 2, 1) := by decide +kernel
theorem dGa_duty_32 : decode cGa_duty 32 = .ok (.goto 4, 3) := by decide +kernel
theorem dGa_duty_35 : decode cGa_duty 35 = .ok (.iconst 1, 1) := by decide +kernel
theorem dGa_duty_36 : decode cGa_duty 36 = .ok (.ireturn, 1) := by decide +kernel
theorem dAs_open_0 : decode cAs_open 0 = .ok (.aload_n 0, 1) := by decide +kernel
theorem dAs_open_1 : decode cAs_open 1 = .ok (.iconst 1, 1) := by decide +kernel
theorem dAs_open_2 : decode cAs_open 2 = .ok (.putfield 7, 3) := by decide +kernel
theorem dAs_open_5 : decode cAs_open 5 = .ok (.aload_n 0, 1) := by decide +kernel
theorem dAs_open_6 : decode cAs_open 6 = .ok (.iconst 1, 1) := by decide +kernel
theorem dAs_open_7 : decode cAs_open 7 = .ok (.putfield 13, 3) := by decide +kernel
theorem dAs_open_10 : decode cAs_open 10 = .ok (.aload_n 0, 1) := by decide +kernel
theorem dAs_open_11 : decode cAs_open 11 = .ok (.iload_n 1, 1) := by decide +kernel
theorem dAs_open_12 : decode cAs_open 12 = .ok (.putfield 16, 3) := by decide +kernel
theorem dAs_open_15 : decode cAs_open 15 = .ok (.aload_n 0, 1) := by decide +kernel
theorem dAs_open_16 : decode cAs_open 16 = .ok (.iload_n 2, 1) := by decide +kernel
theorem dAs_open_17 : decode cAs_open 17 = .ok (.putfield 20, 3) := by decide +kernel
theorem dAs_open_20 : decode cAs_open 20 = .ok (.aload_n 0, 1) := by decide +kernel
theorem dAs_open_21 : decode cAs_open 21 = .ok (.iload_n 3, 1) := by decide +kernel
theorem dAs_open_22 : decode cAs_open 22 = .ok (.putfield 23, 3) := by decide +kernel
theorem dAs_open_25 : decode cAs_open 25 = .ok (.aload_n 0, 1) := by decide +kernel
theorem dAs_open_26 : decode cAs_open 26 = .ok (.iload 4, 2) := by decide +kernel
theorem dAs_open_28 : decode cAs_open 28 = .ok (.putfield 26, 3) := by decide +kernel
theorem dAs_open_31 : decode cAs_open 31 = .ok (.return_, 1) := by decide +kernel
theorem dPa_add_0 : decode cPa_add 0 = .ok (.aload_n 0, 1) := by decide +kernel
theorem dPa_add_1 : decode cPa_add 1 = .ok (.getfield 22, 3) := by decide +kernel
theorem dPa_add_4 : decode cPa_add 4 = .ok (.bipush 30, 2) := by decide +kernel
theorem dPa_add_6 : decode cPa_add 6 = .ok (.if_icmp .ge 33, 3) := by decide +kernel
theorem dPa_add_9 : decode cPa_add 9 = .ok (.aload_n 0, 1) := by decide +kernel
theorem dPa_add_10 : decode cPa_add 10 = .ok (.getfield 9, 3) := by decide +kernel
theorem dPa_add_13 : decode cPa_add 13 = .ok (.aload_n 0, 1) := by decide +kernel
theorem dPa_add_14 : decode cPa_add 14 = .ok (.getfield 22, 3) := by decide +kernel
theorem dPa_add_17 : decode cPa_add 17 = .ok (.iload_n 1, 1) := by decide +kernel
theorem dPa_add_18 : decode cPa_add 18 = .ok (.iastore, 1) := by decide +kernel
theorem dPa_add_19 : decode cPa_add 19 = .ok (.aload_n 0, 1) := by decide +kernel
theorem dPa_add_20 : decode cPa_add 20 = .ok (.getfield 15, 3) := by decide +kernel
theorem dPa_add_23 : decode cPa_add 23 = .ok (.aload_n 0, 1) := by decide +kernel
theorem dPa_add_24 : decode cPa_add 24 = .ok (.getfield 22, 3) := by decide +kernel
theorem dPa_add_27 : decode cPa_add 27 = .ok (.iload_n 2, 1) := by decide +kernel
theorem dPa_add_28 : decode cPa_add 28 = .ok (.iastore, 1) := by decide +kernel
theorem dPa_add_29 : decode cPa_add 29 = .ok (.aload_n 0, 1) := by decide +kernel
theorem dPa_add_30 : decode cPa_add 30 = .ok (.dup, 1) := by decide +kernel
theorem dPa_add_31 : decode cPa_add 31 = .ok (.getfield 22, 3) := by decide +kernel
theorem dPa_add_34 : decode cPa_add 34 = .ok (.iconst 1, 1) := by decide +kernel
theorem dPa_add_35 : decode cPa_add 35 = .ok (.iadd, 1) := by decide +kernel
theorem dPa_add_36 : decode cPa_add 36 = .ok (.putfield 22, 3) := by decide +kernel
theorem dPa_add_39 : decode cPa_add 39 = .ok (.return_, 1) := by decide +kernel
abbrev ww_Ga_clearMiddle (h0 : Nat) (u : ct_Ga) : va_W := [(h0, ce_Ga u)]
def wp_Ga_clearMiddle (post : ct_Ga → Prop) (u : ct_Ga) : Prop := post (u.1, u.2.1, u.2.2.1, u.2.2.2.1, u.2.2.2.2.1, 0, 0, u.2.2.2.2.2.2.2.1, u.2.2.2.2.2.2.2.2)
set_option maxHeartbeats 4000000 in
set_option maxRecDepth 100000 in
theorem mt_Ga_clearMiddle (l : Launch) (dC : Nat → ClassId) (dI : Nat → Nat → Nat) (h0 : Nat) (sz : Nat) (post : ct_Ga → Prop) (u : ct_Ga) (hw : wp_Ga_clearMiddle post u) : Met l yGa_clearMiddle wsGa_clearMiddle ({ frames := 0, cells := 0, slots := 0, locals := 0 }) (kp_P dC dI [.ref h0] sz (ww_Ga_clearMiddle h0 u) []) (va_Qv post (fun u9 => kp_B dC dI (va_A (ww_Ga_clearMiddle h0 u) sz) (ww_Ga_clearMiddle h0 u9) []) (va_A (ww_Ga_clearMiddle h0 u) sz)) 0 0 (va_A (ww_Ga_clearMiddle h0 u) sz) := by
  refine Met.ofW (cc := cGa_clearMiddle) (maxL := 1) (ret := none) (by decide) rfl ?_
  intro p e s m args below meth c s₁ B hml hv
  obtain ⟨rfl, hsz, hP, hK, hD0, hZ⟩ := hv
  have hx := B.exec
  have hb := B.bytes
  have hr := B.returns
  have hq : ∀ w ∈ wz, w.before _ s = true := fun w h => atoms_spec (ws := wsGa_clearMiddle) B.pre w (List.mem_cons_of_mem _ h)
  have hown : s.vm.findClass "StepCourt$Game" = some m.cls := findClass_of_methodNamed B.named
  have hlocks := B.notSynchronized
  subst hsz
  have hD := hD0.self (sz := s.heap.size)
  generalize hAe : va_A (ww_Ga_clearMiddle h0 u) s.heap.size = A at hD ⊢
  have hA : ∀ q : Nat, s.heap.size ≤ q → A q := fun q h => by rw [← hAe]; exact Or.inr h
  have hS : va_S A s.heap s.heap [] := va_S.rf
  have hP : va_P (dC, dI) vwCl [(h0, ce_Ga u)] s.heap := hP
  have hD : va_D A [(h0, ce_Ga u)] := hD
  have hl := lv_entry ([.ref h0]) (n := 1) (Nat.le_of_ble_eq_true rfl)
  rw [lg_entry_eq]
  generalize (lg_sl ([.ref h0]) ++ List.replicate (1 - (lg_sl ([.ref h0])).length) Slot.unset).toArray = ls at hl ⊢
  have hl : lv_has ls 1 [(0, .ref h0)] := hl
  skip
  refine lv_aload_n hx hb dGa_clearMiddle_0 rfl (lv_at hl 0 rfl) ?_
  refine lv_lconst (v := 0) hx hb dGa_clearMiddle_1 (by decide) ?_
  refine va_put (D := (dC, dI)) (ci := 2) (v := .long 0) (ty := .long) (C := "StepCourt$Game") (T := TGa) (N := 9) hx hb hq inGa tyGa tyGa_ok nmGa hown hK hP hD hS 0 rfl rfl 5 (by decide) (hq _ wt_202) (fun _ h9 => h9) rfl (by decide +kernel) rfl rfl (Nat.le_of_ble_eq_true rfl) dGa_clearMiddle_2 (fun H locs hP hD hS => ?_)
  have hP : va_P (dC, dI) vwCl [(h0, ce_Ga (u.1, u.2.1, u.2.2.1, u.2.2.2.1, u.2.2.2.2.1, 0, u.2.2.2.2.2.2.1, u.2.2.2.2.2.2.2.1, u.2.2.2.2.2.2.2.2))] H := hP
  have hD : va_D A [(h0, ce_Ga (u.1, u.2.1, u.2.2.1, u.2.2.2.1, u.2.2.2.2.1, 0, u.2.2.2.2.2.2.1, u.2.2.2.2.2.2.2.1, u.2.2.2.2.2.2.2.2))] := hD
  refine lv_aload_n hx hb dGa_clearMiddle_5 rfl (lv_at hl 0 rfl) ?_
  refine lv_iconst (v := 0) hx hb dGa_clearMiddle_6 (by decide) ?_
  refine va_put (D := (dC, dI)) (ci := 2) (v := .int 0) (ty := .boolean) (C := "StepCourt$Game") (T := TGa) (N := 9) hx hb hq inGa tyGa tyGa_ok nmGa hown hK hP hD hS 0 rfl rfl 6 (by decide) (hq _ wt_204) (fun _ h9 => h9) rfl (by decide +kernel) rfl rfl (Nat.le_of_ble_eq_true rfl) dGa_clearMiddle_7 (fun H locs hP hD hS => ?_)
  have hP : va_P (dC, dI) vwCl [(h0, ce_Ga (u.1, u.2.1, u.2.2.1, u.2.2.2.1, u.2.2.2.2.1, 0, 0, u.2.2.2.2.2.2.2.1, u.2.2.2.2.2.2.2.2))] H := hP
  have hD : va_D A [(h0, ce_Ga (u.1, u.2.1, u.2.2.1, u.2.2.2.1, u.2.2.2.2.1, 0, 0, u.2.2.2.2.2.2.2.1, u.2.2.2.2.2.2.2.2))] := hD
  have hP9 := hP.sub (ws' := [(h0, ce_Ga (u.1, u.2.1, u.2.2.1, u.2.2.2.1, u.2.2.2.2.1, 0, 0, u.2.2.2.2.2.2.2.1, u.2.2.2.2.2.2.2.2))]) [0] rfl
  have hD9 := hD.sub (ws' := [(h0, ce_Ga (u.1, u.2.1, u.2.2.1, u.2.2.2.1, u.2.2.2.2.1, 0, 0, u.2.2.2.2.2.2.2.1, u.2.2.2.2.2.2.2.2))]) [0] (by decide) rfl
  have hK9 := hK.sub (tys' := []) [] rfl
  exact W.vret hx hb hr (fun t ht hW => ⟨⟨(u.1, u.2.1, u.2.2.1, u.2.2.2.1, u.2.2.2.2.1, 0, 0, u.2.2.2.2.2.2.2.1, u.2.2.2.2.2.2.2.2), rfl, hw, by rw [ht]; exact hP9, va_K.moved hW.alike hK9, hD9⟩, hS.F ht⟩) hS.2.2 dGa_clearMiddle_10
abbrev ww_Ga_begin (h0 : Nat) (u : ct_Ga) : va_W := [(h0, ce_Ga u)]
def wp_Ga_begin (post : ct_Ga → Prop) (u : ct_Ga) (k1 : Int32) (k2 : Int32) (k3 : Int64) (k4 : Int64) : Prop := wp_Ga_clearMiddle (fun u2 => (post (u2.1, u2.2.1, u2.2.2.1, u2.2.2.2.1, u2.2.2.2.2.1, u2.2.2.2.2.2.1, u2.2.2.2.2.2.2.1, u2.2.2.2.2.2.2.2.1, 1))) (k1, 0, k2, k3, k4, u.2.2.2.2.2.1, u.2.2.2.2.2.2.1, u.2.2.2.2.2.2.2.1, u.2.2.2.2.2.2.2.2) 
set_option maxHeartbeats 4000000 in
set_option maxRecDepth 100000 in
theorem mt_Ga_begin (l : Launch) (dC : Nat → ClassId) (dI : Nat → Nat → Nat) (h0 : Nat) (sz : Nat) (post : ct_Ga → Prop) (u : ct_Ga) (k1 : Int32) (k2 : Int32) (k3 : Int64) (k4 : Int64) (hw : wp_Ga_begin post u k1 k2 k3 k4) : Met l yGa_begin wsGa_begin ({ frames := 1, cells := 0, slots := 0, locals := 20 }) (kp_P dC dI [.ref h0, .int k1, .int k2, .long k3, .long k4] sz (ww_Ga_begin h0 u) []) (va_Qv post (fun u9 => kp_B dC dI (va_A (ww_Ga_begin h0 u) sz) (ww_Ga_begin h0 u9) []) (va_A (ww_Ga_begin h0 u) sz)) 0 0 (va_A (ww_Ga_begin h0 u) sz) := by
  refine Met.ofW (cc := cGa_begin) (maxL := 7) (ret := none) (by decide) rfl ?_
  intro p e s m args below meth c s₁ B hml hv
  obtain ⟨rfl, hsz, hP, hK, hD0, hZ⟩ := hv
  have hx := B.exec
  have hb := B.bytes
  have hr := B.returns
  have hq : ∀ w ∈ wz, w.before _ s = true := fun w h => atoms_spec (ws := wsGa_begin) B.pre w (List.mem_cons_of_mem _ h)
  have hown : s.vm.findClass "StepCourt$Game" = some m.cls := findClass_of_methodNamed B.named
  have hlocks := B.notSynchronized
  subst hsz
  have hD := hD0.self (sz := s.heap.size)
  generalize hAe : va_A (ww_Ga_begin h0 u) s.heap.size = A at hD ⊢
  have hA : ∀ q : Nat, s.heap.size ≤ q → A q := fun q h => by rw [← hAe]; exact Or.inr h
  have hS : va_S A s.heap s.heap [] := va_S.rf
  have hP : va_P (dC, dI) vwCl [(h0, ce_Ga u)] s.heap := hP
  have hD : va_D A [(h0, ce_Ga u)] := hD
  have hl := lv_entry ([.ref h0, .int k1, .int k2, .long k3, .long k4]) (n := 7) (Nat.le_of_ble_eq_true rfl)
  rw [lg_entry_eq]
  generalize (lg_sl ([.ref h0, .int k1, .int k2, .long k3, .long k4]) ++ List.replicate (7 - (lg_sl ([.ref h0, .int k1, .int k2, .long k3, .long k4])).length) Slot.unset).toArray = ls at hl ⊢
  have hl : lv_has ls 7 [(0, .ref h0), (1, .int k1), (2, .int k2), (3, .long k3), (5, .long k4)] := hl
  skip
  refine lv_aload_n hx hb dGa_begin_0 rfl (lv_at hl 0 rfl) ?_
  refine lv_iload_n hx hb dGa_begin_1 rfl (lv_at hl 1 rfl) ?_
  refine va_put (D := (dC, dI)) (ci := 2) (v := .int k1) (ty := .int) (C := "StepCourt$Game") (T := TGa) (N := 9) hx hb hq inGa tyGa tyGa_ok nmGa hown hK hP hD hS 0 rfl rfl 0 (by decide) (hq _ wt_192) (fun _ h9 => h9) rfl (by decide +kernel) rfl rfl (Nat.le_of_ble_eq_true rfl) dGa_begin_2 (fun H locs hP hD hS => ?_)
  have hP : va_P (dC, dI) vwCl [(h0, ce_Ga (k1, u.2.1, u.2.2.1, u.2.2.2.1, u.2.2.2.2.1, u.2.2.2.2.2.1, u.2.2.2.2.2.2.1, u.2.2.2.2.2.2.2.1, u.2.2.2.2.2.2.2.2))] H := hP
  have hD : va_D A [(h0, ce_Ga (k1, u.2.1, u.2.2.1, u.2.2.2.1, u.2.2.2.2.1, u.2.2.2.2.2.1, u.2.2.2.2.2.2.1, u.2.2.2.2.2.2.2.1, u.2.2.2.2.2.2.2.2))] := hD
  refine lv_aload_n hx hb dGa_begin_5 rfl (lv_at hl 0 rfl) ?_
  refine lv_iconst (v := 0) hx hb dGa_begin_6 (by decide) ?_
  refine va_put (D := (dC, dI)) (ci := 2) (v := .int 0) (ty := .int) (C := "StepCourt$Game") (T := TGa) (N := 9) hx hb hq inGa tyGa tyGa_ok nmGa hown hK hP hD hS 0 rfl rfl 1 (by decide) (hq _ wt_194) (fun _ h9 => h9) rfl (by decide +kernel) rfl rfl (Nat.le_of_ble_eq_true rfl) dGa_begin_7 (fun H locs hP hD hS => ?_)
  have hP : va_P (dC, dI) vwCl [(h0, ce_Ga (k1, 0, u.2.2.1, u.2.2.2.1, u.2.2.2.2.1, u.2.2.2.2.2.1, u.2.2.2.2.2.2.1, u.2.2.2.2.2.2.2.1, u.2.2.2.2.2.2.2.2))] H := hP
  have hD : va_D A [(h0, ce_Ga (k1, 0, u.2.2.1, u.2.2.2.1, u.2.2.2.2.1, u.2.2.2.2.2.1, u.2.2.2.2.2.2.1, u.2.2.2.2.2.2.2.1, u.2.2.2.2.2.2.2.2))] := hD
  refine lv_aload_n hx hb dGa_begin_10 rfl (lv_at hl 0 rfl) ?_
  refine lv_iload_n hx hb dGa_begin_11 rfl (lv_at hl 2 rfl) ?_
  refine va_put (D := (dC, dI)) (ci := 2) (v := .int k2) (ty := .int) (C := "StepCourt$Game") (T := TGa) (N := 9) hx hb hq inGa tyGa tyGa_ok nmGa hown hK hP hD hS 0 rfl rfl 2 (by decide) (hq _ wt_196) (fun _ h9 => h9) rfl (by decide +kernel) rfl rfl (Nat.le_of_ble_eq_true rfl) dGa_begin_12 (fun H locs hP hD hS => ?_)
  have hP : va_P (dC, dI) vwCl [(h0, ce_Ga (k1, 0, k2, u.2.2.2.1, u.2.2.2.2.1, u.2.2.2.2.2.1, u.2.2.2.2.2.2.1, u.2.2.2.2.2.2.2.1, u.2.2.2.2.2.2.2.2))] H := hP
  have hD : va_D A [(h0, ce_Ga (k1, 0, k2, u.2.2.2.1, u.2.2.2.2.1, u.2.2.2.2.2.1, u.2.2.2.2.2.2.1, u.2.2.2.2.2.2.2.1, u.2.2.2.2.2.2.2.2))] := hD
  refine lv_aload_n hx hb dGa_begin_15 rfl (lv_at hl 0 rfl) ?_
  refine lv_lload_n hx hb dGa_begin_16 rfl (lv_at hl 3 rfl) ?_
  refine va_put (D := (dC, dI)) (ci := 2) (v := .long k3) (ty := .long) (C := "StepCourt$Game") (T := TGa) (N := 9) hx hb hq inGa tyGa tyGa_ok nmGa hown hK hP hD hS 0 rfl rfl 3 (by decide) (hq _ wt_198) (fun _ h9 => h9) rfl (by decide +kernel) rfl rfl (Nat.le_of_ble_eq_true rfl) dGa_begin_17 (fun H locs hP hD hS => ?_)
  have hP : va_P (dC, dI) vwCl [(h0, ce_Ga (k1, 0, k2, k3, u.2.2.2.2.1, u.2.2.2.2.2.1, u.2.2.2.2.2.2.1, u.2.2.2.2.2.2.2.1, u.2.2.2.2.2.2.2.2))] H := hP
  have hD : va_D A [(h0, ce_Ga (k1, 0, k2, k3, u.2.2.2.2.1, u.2.2.2.2.2.1, u.2.2.2.2.2.2.1, u.2.2.2.2.2.2.2.1, u.2.2.2.2.2.2.2.2))] := hD
  refine lv_aload_n hx hb dGa_begin_20 rfl (lv_at hl 0 rfl) ?_
  refine lv_lload hx hb dGa_begin_21 (lv_at hl 4 rfl) ?_
  refine va_put (D := (dC, dI)) (ci := 2) (v := .long k4) (ty := .long) (C := "StepCourt$Game") (T := TGa) (N := 9) hx hb hq inGa tyGa tyGa_ok nmGa hown hK hP hD hS 0 rfl rfl 4 (by decide) (hq _ wt_200) (fun _ h9 => h9) rfl (by decide +kernel) rfl rfl (Nat.le_of_ble_eq_true rfl) dGa_begin_23 (fun H locs hP hD hS => ?_)
  have hP : va_P (dC, dI) vwCl [(h0, ce_Ga (k1, 0, k2, k3, k4, u.2.2.2.2.2.1, u.2.2.2.2.2.2.1, u.2.2.2.2.2.2.2.1, u.2.2.2.2.2.2.2.2))] H := hP
  have hD : va_D A [(h0, ce_Ga (k1, 0, k2, k3, k4, u.2.2.2.2.2.1, u.2.2.2.2.2.2.1, u.2.2.2.2.2.2.2.1, u.2.2.2.2.2.2.2.2))] := hD
  refine lv_aload_n hx hb dGa_begin_26 rfl (lv_at hl 0 rfl) ?_
  have hPc := hP.sub (ws' := [(h0, ce_Ga (k1, 0, k2, k3, k4, u.2.2.2.2.2.1, u.2.2.2.2.2.2.1, u.2.2.2.2.2.2.2.1, u.2.2.2.2.2.2.2.2))]) [0] rfl
  have hDc := hD.sub (ws' := [(h0, ce_Ga (k1, 0, k2, k3, k4, u.2.2.2.2.2.1, u.2.2.2.2.2.2.1, u.2.2.2.2.2.2.2.1, u.2.2.2.2.2.2.2.2))]) [0] (by decide) rfl
  have hKc := hK.sub (tys' := []) [] rfl
  have hFc := va_free (wc := [(h0, ce_Ga (k1, 0, k2, k3, k4, u.2.2.2.2.2.1, u.2.2.2.2.2.2.1, u.2.2.2.2.2.2.2.1, u.2.2.2.2.2.2.2.2))]) hD hS hA [0] rfl
  refine va_callv (va_runV (As := []) (rest := []) ⟨hx, hb, hml, hown, hq⟩ (mt_Ga_clearMiddle l dC dI h0 H.size _ (k1, 0, k2, k3, k4, u.2.2.2.2.2.1, u.2.2.2.2.2.2.1, u.2.2.2.2.2.2.2.1, u.2.2.2.2.2.2.2.2) hw) ⟨cq_B 0 hq wt_616 wt_613 wt_8 rfl rfl hd_Ga_clearMiddle ⟨Nat.le_of_ble_eq_true rfl, Nat.le_of_ble_eq_true rfl⟩, (hq _ wt_615), (hq _ wv_17)⟩ ⟨kp_bl, va_recv hKc hPc (ci := 2) (q0 := 0) rfl rfl, kp_at hPc hKc hDc hZ⟩ rfl rfl hl.1 rfl (lv_room (Nat.le_of_ble_eq_true rfl)) dGa_begin_27 ⟨(by decide), (by decide)⟩) hS (fun q _ h => hFc q h) hFc (fun u2 t H1 locs ht hvm hw hB hz1 hk1 hS => ?_)
  obtain ⟨hP1, hK1, hD1⟩ := hB
  rw [ht] at hP1
  have hK1 := va_K.moved hvm.symm hK1
  obtain ⟨hP, hD⟩ := va_join (wr := []) (w1 := [(h0, ce_Ga u2)]) hP hD [0] [] rfl rfl (by decide) (by decide) hk1 hFc hP1 hD1
  have hK := (hK.sub (tys' := []) [] rfl).app hK1
  generalize H1 = H at hP hS ⊢
  have hP : va_P (dC, dI) vwCl [(h0, ce_Ga u2)] H := hP
  have hD : va_D A [(h0, ce_Ga u2)] := hD
  have hK : va_K (dC, dI) vwCl [] s := hK
  refine lv_aload_n hx hb dGa_begin_30 rfl (lv_at hl 0 rfl) ?_
  refine lv_iconst (v := 1) hx hb dGa_begin_31 (by decide) ?_
  refine va_put (D := (dC, dI)) (ci := 2) (v := .int 1) (ty := .boolean) (C := "StepCourt$Game") (T := TGa) (N := 9) hx hb hq inGa tyGa tyGa_ok nmGa hown hK hP hD hS 0 rfl rfl 8 (by decide) (hq _ wt_207) (fun _ h9 => h9) rfl (by decide +kernel) rfl rfl (Nat.le_of_ble_eq_true rfl) dGa_begin_32 (fun H locs hP hD hS => ?_)
  have hP : va_P (dC, dI) vwCl [(h0, ce_Ga (u2.1, u2.2.1, u2.2.2.1, u2.2.2.2.1, u2.2.2.2.2.1, u2.2.2.2.2.2.1, u2.2.2.2.2.2.2.1, u2.2.2.2.2.2.2.2.1, 1))] H := hP
  have hD : va_D A [(h0, ce_Ga (u2.1, u2.2.1, u2.2.2.1, u2.2.2.2.1, u2.2.2.2.2.1, u2.2.2.2.2.2.1, u2.2.2.2.2.2.2.1, u2.2.2.2.2.2.2.2.1, 1))] := hD
  have hP9 := hP.sub (ws' := [(h0, ce_Ga (u2.1, u2.2.1, u2.2.2.1, u2.2.2.2.1, u2.2.2.2.2.1, u2.2.2.2.2.2.1, u2.2.2.2.2.2.2.1, u2.2.2.2.2.2.2.2.1, 1))]) [0] rfl
  have hD9 := hD.sub (ws' := [(h0, ce_Ga (u2.1, u2.2.1, u2.2.2.1, u2.2.2.2.1, u2.2.2.2.2.1, u2.2.2.2.2.2.1, u2.2.2.2.2.2.2.1, u2.2.2.2.2.2.2.2.1, 1))]) [0] (by decide) rfl
  have hK9 := hK.sub (tys' := []) [] rfl
  exact W.vret hx hb hr (fun t ht hW => ⟨⟨(u2.1, u2.2.1, u2.2.2.1, u2.2.2.2.1, u2.2.2.2.2.1, u2.2.2.2.2.2.1, u2.2.2.2.2.2.2.1, u2.2.2.2.2.2.2.2.1, 1), rfl, hw, by rw [ht]; exact hP9, va_K.moved hW.alike hK9, hD9⟩, hS.F ht⟩) hS.2.2 dGa_begin_35
abbrev ww_Ga_setDeadline (h0 : Nat) (u : ct_Ga) : va_W := [(h0, ce_Ga u)]
def wp_Ga_setDeadline (post : ct_Ga → Prop) (u : ct_Ga) (k1 : Int32) : Prop := ∀ f1 : Int32, f1 = (k1 + 4) → (post (u.1, u.2.1, u.2.2.1, u.2.2.2.1, u.2.2.2.2.1, u.2.2.2.2.2.1, u.2.2.2.2.2.2.1, f1, u.2.2.2.2.2.2.2.2))
set_option maxHeartbeats 4000000 in
set_option maxRecDepth 100000 in
theorem mt_Ga_setDeadline (l : Launch) (dC : Nat → ClassId) (dI : Nat → Nat → Nat) (h0 : Nat) (sz : Nat) (post : ct_Ga → Prop) (u : ct_Ga) (k1 : Int32) (hw : wp_Ga_setDeadline post u k1) : Met l yGa_setDeadline wsGa_setDeadline ({ frames := 0, cells := 0, slots := 0, locals := 0 }) (kp_P dC dI [.ref h0, .int k1] sz (ww_Ga_setDeadline h0 u) []) (va_Qv post (fun u9 => kp_B dC dI (va_A (ww_Ga_setDeadline h0 u) sz) (ww_Ga_setDeadline h0 u9) []) (va_A (ww_Ga_setDeadline h0 u) sz)) 0 0 (va_A (ww_Ga_setDeadline h0 u) sz) := by
  refine Met.ofW (cc := cGa_setDeadline) (maxL := 2) (ret := none) (by decide) rfl ?_
  intro p e s m args below meth c s₁ B hml hv
  obtain ⟨rfl, hsz, hP, hK, hD0, hZ⟩ := hv
  have hx := B.exec
  have hb := B.bytes
  have hr := B.returns
  have hq : ∀ w ∈ wz, w.before _ s = true := fun w h => atoms_spec (ws := wsGa_setDeadline) B.pre w (List.mem_cons_of_mem _ h)
  have hown : s.vm.findClass "StepCourt$Game" = some m.cls := findClass_of_methodNamed B.named
  have hlocks := B.notSynchronized
  subst hsz
  have hD := hD0.self (sz := s.heap.size)
  generalize hAe : va_A (ww_Ga_setDeadline h0 u) s.heap.size = A at hD ⊢
  have hA : ∀ q : Nat, s.heap.size ≤ q → A q := fun q h => by rw [← hAe]; exact Or.inr h
  have hS : va_S A s.heap s.heap [] := va_S.rf
  have hP : va_P (dC, dI) vwCl [(h0, ce_Ga u)] s.heap := hP
  have hD : va_D A [(h0, ce_Ga u)] := hD
  have hl := lv_entry ([.ref h0, .int k1]) (n := 2) (Nat.le_of_ble_eq_true rfl)
  rw [lg_entry_eq]
  generalize (lg_sl ([.ref h0, .int k1]) ++ List.replicate (2 - (lg_sl ([.ref h0, .int k1])).length) Slot.unset).toArray = ls at hl ⊢
  have hl : lv_has ls 2 [(0, .ref h0), (1, .int k1)] := hl
  skip
  refine lv_aload_n hx hb dGa_setDeadline_0 rfl (lv_at hl 0 rfl) ?_
  refine lv_iload_n hx hb dGa_setDeadline_1 rfl (lv_at hl 1 rfl) ?_
  refine lv_iconst (v := 4) hx hb dGa_setDeadline_2 (by decide) ?_
  refine lv_iadd hx hb dGa_setDeadline_3 ?_
  refine lv_topi (fun f1 ef1 => ?_)
  have hw := hw f1 ef1
  refine va_put (D := (dC, dI)) (ci := 2) (v := .int f1) (ty := .int) (C := "StepCourt$Game") (T := TGa) (N := 9) hx hb hq inGa tyGa tyGa_ok nmGa hown hK hP hD hS 0 rfl rfl 7 (by decide) (hq _ wt_205) (fun _ h9 => h9) rfl (by decide +kernel) rfl rfl (Nat.le_of_ble_eq_true rfl) dGa_setDeadline_4 (fun H locs hP hD hS => ?_)
  have hP : va_P (dC, dI) vwCl [(h0, ce_Ga (u.1, u.2.1, u.2.2.1, u.2.2.2.1, u.2.2.2.2.1, u.2.2.2.2.2.1, u.2.2.2.2.2.2.1, f1, u.2.2.2.2.2.2.2.2))] H := hP
  have hD : va_D A [(h0, ce_Ga (u.1, u.2.1, u.2.2.1, u.2.2.2.1, u.2.2.2.2.1, u.2.2.2.2.2.1, u.2.2.2.2.2.2.1, f1, u.2.2.2.2.2.2.2.2))] := hD
  have hP9 := hP.sub (ws' := [(h0, ce_Ga (u.1, u.2.1, u.2.2.1, u.2.2.2.1, u.2.2.2.2.1, u.2.2.2.2.2.1, u.2.2.2.2.2.2.1, f1, u.2.2.2.2.2.2.2.2))]) [0] rfl
  have hD9 := hD.sub (ws' := [(h0, ce_Ga (u.1, u.2.1, u.2.2.1, u.2.2.2.1, u.2.2.2.2.1, u.2.2.2.2.2.1, u.2.2.2.2.2.2.1, f1, u.2.2.2.2.2.2.2.2))]) [0] (by decide) rfl
  have hK9 := hK.sub (tys' := []) [] rfl
  exact W.vret hx hb hr (fun t ht hW => ⟨⟨(u.1, u.2.1, u.2.2.1, u.2.2.2.1, u.2.2.2.2.1, u.2.2.2.2.2.1, u.2.2.2.2.2.2.1, f1, u.2.2.2.2.2.2.2.2), rfl, hw, by rw [ht]; exact hP9, va_K.moved hW.alike hK9, hD9⟩, hS.F ht⟩) hS.2.2 dGa_setDeadline_7
abbrev ww_Ga_middleStep (h0 : Nat) (u : ct_Ga) : va_W := [(h0, ce_Ga u)]
def wp_Ga_middleStep (post : Int32 → ct_Ga → Prop) (u : ct_Ga) : Prop := post ((u.2.1 + u.2.2.1) / 2) u
set_option maxHeartbeats 4000000 in
set_option maxRecDepth 100000 in
theorem mt_Ga_middleStep (l : Launch) (dC : Nat → ClassId) (dI : Nat → Nat → Nat) (h0 : Nat) (sz : Nat) (post : Int32 → ct_Ga → Prop) (u : ct_Ga) (hw : wp_Ga_middleStep post u) : Met l yGa_middleStep wsGa_middleStep ({ frames := 0, cells := 0, slots := 0, locals := 0 }) (kp_P dC dI [.ref h0] sz (ww_Ga_middleStep h0 u) []) (va_Qi post (fun u9 => kp_B dC dI (va_A (ww_Ga_middleStep h0 u) sz) (ww_Ga_middleStep h0 u9) []) (va_A (ww_Ga_middleStep h0 u) sz)) 0 0 (va_A (ww_Ga_middleStep h0 u) sz) := by
  refine Met.ofW (cc := cGa_middleStep) (maxL := 1) (ret := (some .int)) (by decide) rfl ?_
  intro p e s m args below meth c s₁ B hml hv
  obtain ⟨rfl, hsz, hP, hK, hD0, hZ⟩ := hv
  have hx := B.exec
  have hb := B.bytes
  have hr := B.returns
  have hq : ∀ w ∈ wz, w.before _ s = true := fun w h => atoms_spec (ws := wsGa_middleStep) B.pre w (List.mem_cons_of_mem _ h)
  have hown : s.vm.findClass "StepCourt$Game" = some m.cls := findClass_of_methodNamed B.named
  have hlocks := B.notSynchronized
  subst hsz
  have hD := hD0.self (sz := s.heap.size)
  generalize hAe : va_A (ww_Ga_middleStep h0 u) s.heap.size = A at hD ⊢
  have hA : ∀ q : Nat, s.heap.size ≤ q → A q := fun q h => by rw [← hAe]; exact Or.inr h
  have hS : va_S A s.heap s.heap [] := va_S.rf
  have hP : va_P (dC, dI) vwCl [(h0, ce_Ga u)] s.heap := hP
  have hD : va_D A [(h0, ce_Ga u)] := hD
  have hl := lv_entry ([.ref h0]) (n := 1) (Nat.le_of_ble_eq_true rfl)
  rw [lg_entry_eq]
  generalize (lg_sl ([.ref h0]) ++ List.replicate (1 - (lg_sl ([.ref h0])).length) Slot.unset).toArray = ls at hl ⊢
  have hl : lv_has ls 1 [(0, .ref h0)] := hl
  skip
  refine lv_aload_n hx hb dGa_middleStep_0 rfl (lv_at hl 0 rfl) ?_
  refine va_get (D := (dC, dI)) (ci := 2) (v := .int u.2.1) (C := "StepCourt$Game") (T := TGa) (N := 9) hx hb hq inGa hown hK hP 0 rfl rfl 1 (by decide) (hq _ wt_194) (fun _ h9 => h9) rfl dGa_middleStep_1 ?_
  refine lv_aload_n hx hb dGa_middleStep_4 rfl (lv_at hl 0 rfl) ?_
  refine va_get (D := (dC, dI)) (ci := 2) (v := .int u.2.2.1) (C := "StepCourt$Game") (T := TGa) (N := 9) hx hb hq inGa hown hK hP 0 rfl rfl 2 (by decide) (hq _ wt_196) (fun _ h9 => h9) rfl dGa_middleStep_5 ?_
  refine lv_iadd hx hb dGa_middleStep_8 ?_
  refine lv_iconst (v := 2) hx hb dGa_middleStep_9 (by decide) ?_
  refine lv_idiv hx hb dGa_middleStep_10 (by decide) ?_
  have hP9 := hP.sub (ws' := [(h0, ce_Ga u)]) [0] rfl
  have hD9 := hD.sub (ws' := [(h0, ce_Ga u)]) [0] (by decide) rfl
  have hK9 := hK.sub (tys' := []) [] rfl
  exact W.iret (v := ((u.2.1 + u.2.2.1) / 2)) hx hb hr (fun t ht hW => ⟨⟨((u.2.1 + u.2.2.1) / 2), u, rfl, hw, by rw [ht]; exact hP9, va_K.moved hW.alike hK9, hD9⟩, hS.F ht⟩) hS.2.2 dGa_middleStep_11
abbrev ww_Ga_setMiddle (h0 : Nat) (u : ct_Ga) : va_W := [(h0, ce_Ga u)]
def wp_Ga_setMiddle (post : ct_Ga → Prop) (u : ct_Ga) (k1 : Int64) : Prop := post (u.1, u.2.1, u.2.2.1, u.2.2.2.1, u.2.2.2.2.1, k1, 1, u.2.2.2.2.2.2.2.1, u.2.2.2.2.2.2.2.2)
set_option maxHeartbeats 4000000 in
set_option maxRecDepth 100000 in
theorem mt_Ga_setMiddle (l : Launch) (dC : Nat → ClassId) (dI : Nat → Nat → Nat) (h0 : Nat) (sz : Nat) (post : ct_Ga → Prop) (u : ct_Ga) (k1 : Int64) (hw : wp_Ga_setMiddle post u k1) : Met l yGa_setMiddle wsGa_setMiddle ({ frames := 0, cells := 0, slots := 0, locals := 0 }) (kp_P dC dI [.ref h0, .long k1] sz (ww_Ga_setMiddle h0 u) []) (va_Qv post (fun u9 => kp_B dC dI (va_A (ww_Ga_setMiddle h0 u) sz) (ww_Ga_setMiddle h0 u9) []) (va_A (ww_Ga_setMiddle h0 u) sz)) 0 0 (va_A (ww_Ga_setMiddle h0 u) sz) := by
  refine Met.ofW (cc := cGa_setMiddle) (maxL := 3) (ret := none) (by decide) rfl ?_
  intro p e s m args below meth c s₁ B hml hv
  obtain ⟨rfl, hsz, hP, hK, hD0, hZ⟩ := hv
  have hx := B.exec
  have hb := B.bytes
  have hr := B.returns
  have hq : ∀ w ∈ wz, w.before _ s = true := fun w h => atoms_spec (ws := wsGa_setMiddle) B.pre w (List.mem_cons_of_mem _ h)
  have hown : s.vm.findClass "StepCourt$Game" = some m.cls := findClass_of_methodNamed B.named
  have hlocks := B.notSynchronized
  subst hsz
  have hD := hD0.self (sz := s.heap.size)
  generalize hAe : va_A (ww_Ga_setMiddle h0 u) s.heap.size = A at hD ⊢
  have hA : ∀ q : Nat, s.heap.size ≤ q → A q := fun q h => by rw [← hAe]; exact Or.inr h
  have hS : va_S A s.heap s.heap [] := va_S.rf
  have hP : va_P (dC, dI) vwCl [(h0, ce_Ga u)] s.heap := hP
  have hD : va_D A [(h0, ce_Ga u)] := hD
  have hl := lv_entry ([.ref h0, .long k1]) (n := 3) (Nat.le_of_ble_eq_true rfl)
  rw [lg_entry_eq]
  generalize (lg_sl ([.ref h0, .long k1]) ++ List.replicate (3 - (lg_sl ([.ref h0, .long k1])).length) Slot.unset).toArray = ls at hl ⊢
  have hl : lv_has ls 3 [(0, .ref h0), (1, .long k1)] := hl
  skip
  refine lv_aload_n hx hb dGa_setMiddle_0 rfl (lv_at hl 0 rfl) ?_
  refine lv_lload_n hx hb dGa_setMiddle_1 rfl (lv_at hl 1 rfl) ?_
  refine va_put (D := (dC, dI)) (ci := 2) (v := .long k1) (ty := .long) (C := "StepCourt$Game") (T := TGa) (N := 9) hx hb hq inGa tyGa tyGa_ok nmGa hown hK hP hD hS 0 rfl rfl 5 (by decide) (hq _ wt_202) (fun _ h9 => h9) rfl (by decide +kernel) rfl rfl (Nat.le_of_ble_eq_true rfl) dGa_setMiddle_2 (fun H locs hP hD hS => ?_)
  have hP : va_P (dC, dI) vwCl [(h0, ce_Ga (u.1, u.2.1, u.2.2.1, u.2.2.2.1, u.2.2.2.2.1, k1, u.2.2.2.2.2.2.1, u.2.2.2.2.2.2.2.1, u.2.2.2.2.2.2.2.2))] H := hP
  have hD : va_D A [(h0, ce_Ga (u.1, u.2.1, u.2.2.1, u.2.2.2.1, u.2.2.2.2.1, k1, u.2.2.2.2.2.2.1, u.2.2.2.2.2.2.2.1, u.2.2.2.2.2.2.2.2))] := hD
  refine lv_aload_n hx hb dGa_setMiddle_5 rfl (lv_at hl 0 rfl) ?_
  refine lv_iconst (v := 1) hx hb dGa_setMiddle_6 (by decide) ?_
  refine va_put (D := (dC, dI)) (ci := 2) (v := .int 1) (ty := .boolean) (C := "StepCourt$Game") (T := TGa) (N := 9) hx hb hq inGa tyGa tyGa_ok nmGa hown hK hP hD hS 0 rfl rfl 6 (by decide) (hq _ wt_204) (fun _ h9 => h9) rfl (by decide +kernel) rfl rfl (Nat.le_of_ble_eq_true rfl) dGa_setMiddle_7 (fun H locs hP hD hS => ?_)
  have hP : va_P (dC, dI) vwCl [(h0, ce_Ga (u.1, u.2.1, u.2.2.1, u.2.2.2.1, u.2.2.2.2.1, k1, 1, u.2.2.2.2.2.2.2.1, u.2.2.2.2.2.2.2.2))] H := hP
  have hD : va_D A [(h0, ce_Ga (u.1, u.2.1, u.2.2.1, u.2.2.2.1, u.2.2.2.2.1, k1, 1, u.2.2.2.2.2.2.2.1, u.2.2.2.2.2.2.2.2))] := hD
  have hP9 := hP.sub (ws' := [(h0, ce_Ga (u.1, u.2.1, u.2.2.1, u.2.2.2.1, u.2.2.2.2.1, k1, 1, u.2.2.2.2.2.2.2.1, u.2.2.2.2.2.2.2.2))]) [0] rfl
  have hD9 := hD.sub (ws' := [(h0, ce_Ga (u.1, u.2.1, u.2.2.1, u.2.2.2.1, u.2.2.2.2.1, k1, 1, u.2.2.2.2.2.2.2.1, u.2.2.2.2.2.2.2.2))]) [0] (by decide) rfl
  have hK9 := hK.sub (tys' := []) [] rfl
  exact W.vret hx hb hr (fun t ht hW => ⟨⟨(u.1, u.2.1, u.2.2.1, u.2.2.2.1, u.2.2.2.2.1, k1, 1, u.2.2.2.2.2.2.2.1, u.2.2.2.2.2.2.2.2), rfl, hw, by rw [ht]; exact hP9, va_K.moved hW.alike hK9, hD9⟩, hS.F ht⟩) hS.2.2 dGa_setMiddle_10
abbrev ww_Ga_halve (h0 : Nat) (u : ct_Ga) : va_W := [(h0, ce_Ga u)]
def wp_Ga_halve (post : ct_Ga → Prop) (u : ct_Ga) (k1 : Int32) : Prop := ((k1 = 0 → (wp_Ga_middleStep (fun r2 u3 => (wp_Ga_clearMiddle (fun u5 => (post u5)) (u3.1, r2, u3.2.2.1, u3.2.2.2.2.2.1, u3.2.2.2.2.1, u3.2.2.2.2.2.1, u3.2.2.2.2.2.2.1, u3.2.2.2.2.2.2.2.1, u3.2.2.2.2.2.2.2.2) )) u )) ∧ (¬ k1 = 0 → (wp_Ga_middleStep (fun r6 u7 => (wp_Ga_clearMiddle (fun u9 => (post u9)) (u7.1, u7.2.1, r6, u7.2.2.2.1, u7.2.2.2.2.2.1, u7.2.2.2.2.2.1, u7.2.2.2.2.2.2.1, u7.2.2.2.2.2.2.2.1, u7.2.2.2.2.2.2.2.2) )) u )))
set_option maxHeartbeats 4000000 in
set_option maxRecDepth 100000 in
theorem mt_Ga_halve (l : Launch) (dC : Nat → ClassId) (dI : Nat → Nat → Nat) (h0 : Nat) (sz : Nat) (post : ct_Ga → Prop) (u : ct_Ga) (k1 : Int32) (hw : wp_Ga_halve post u k1) : Met l yGa_halve wsGa_halve ({ frames := 1, cells := 0, slots := 0, locals := 20 }) (kp_P dC dI [.ref h0, .int k1] sz (ww_Ga_halve h0 u) []) (va_Qv post (fun u9 => kp_B dC dI (va_A (ww_Ga_halve h0 u) sz) (ww_Ga_halve h0 u9) []) (va_A (ww_Ga_halve h0 u) sz)) 0 0 (va_A (ww_Ga_halve h0 u) sz) := by
  refine Met.ofW (cc := cGa_halve) (maxL := 2) (ret := none) (by decide) rfl ?_
  intro p e s m args below meth c s₁ B hml hv
  obtain ⟨rfl, hsz, hP, hK, hD0, hZ⟩ := hv
  have hx := B.exec
  have hb := B.bytes
  have hr := B.returns
  have hq : ∀ w ∈ wz, w.before _ s = true := fun w h => atoms_spec (ws := wsGa_halve) B.pre w (List.mem_cons_of_mem _ h)
  have hown : s.vm.findClass "StepCourt$Game" = some m.cls := findClass_of_methodNamed B.named
  have hlocks := B.notSynchronized
  subst hsz
  have hD := hD0.self (sz := s.heap.size)
  generalize hAe : va_A (ww_Ga_halve h0 u) s.heap.size = A at hD ⊢
  have hA : ∀ q : Nat, s.heap.size ≤ q → A q := fun q h => by rw [← hAe]; exact Or.inr h
  have hS : va_S A s.heap s.heap [] := va_S.rf
  have hP : va_P (dC, dI) vwCl [(h0, ce_Ga u)] s.heap := hP
  have hD : va_D A [(h0, ce_Ga u)] := hD
  have hl := lv_entry ([.ref h0, .int k1]) (n := 2) (Nat.le_of_ble_eq_true rfl)
  rw [lg_entry_eq]
  generalize (lg_sl ([.ref h0, .int k1]) ++ List.replicate (2 - (lg_sl ([.ref h0, .int k1])).length) Slot.unset).toArray = ls at hl ⊢
  have hl : lv_has ls 2 [(0, .ref h0), (1, .int k1)] := hl
  skip
  refine lv_iload_n hx hb dGa_halve_0 rfl (lv_at hl 1 rfl) ?_
  refine lv_if_eq (tgt := 23) hx hb dGa_halve_1 (by decide) (fun cc1 => ?_) (fun cc1 => ?_)
  · have hw := hw.1 cc1
    refine lv_aload_n hx hb dGa_halve_23 rfl (lv_at hl 0 rfl) ?_
    refine lv_aload_n hx hb dGa_halve_24 rfl (lv_at hl 0 rfl) ?_
    have hPc := hP.sub (ws' := [(h0, ce_Ga u)]) [0] rfl
    have hDc := hD.sub (ws' := [(h0, ce_Ga u)]) [0] (by decide) rfl
    have hKc := hK.sub (tys' := []) [] rfl
    have hFc := va_free (wc := [(h0, ce_Ga u)]) hD hS hA [0] rfl
    refine va_calli (va_runV (As := []) (rest := [.ref h0]) ⟨hx, hb, hml, hown, hq⟩ (mt_Ga_middleStep l dC dI h0 s.heap.size _ u hw) ⟨cq_B 0 hq wt_637 wt_653 wt_8 rfl rfl hd_Ga_middleStep ⟨Nat.le_of_ble_eq_true rfl, Nat.le_of_ble_eq_true rfl⟩, (hq _ wt_635), (hq _ wt_636)⟩ ⟨kp_bl, va_recv hKc hPc (ci := 2) (q0 := 0) rfl rfl, kp_at hPc hKc hDc hZ⟩ rfl rfl hl.1 rfl (lv_room (Nat.le_of_ble_eq_true rfl)) dGa_halve_25 ⟨(by decide), (by decide)⟩) hS (fun q _ h => hFc q h) hFc (fun r2 u3 t H1 locs ht hvm hw hB hz1 hk1 hS => ?_)
    obtain ⟨hP1, hK1, hD1⟩ := hB
    rw [ht] at hP1
    have hK1 := va_K.moved hvm.symm hK1
    obtain ⟨hP, hD⟩ := va_join (wr := []) (w1 := [(h0, ce_Ga u3)]) hP hD [0] [] rfl rfl (by decide) (by decide) hk1 hFc hP1 hD1
    have hK := (hK.sub (tys' := []) [] rfl).app hK1
    generalize H1 = H at hP hS ⊢
    have hP : va_P (dC, dI) vwCl [(h0, ce_Ga u3)] H := hP
    have hD : va_D A [(h0, ce_Ga u3)] := hD
    have hK : va_K (dC, dI) vwCl [] s := hK
    refine va_put (D := (dC, dI)) (ci := 2) (v := .int r2) (ty := .int) (C := "StepCourt$Game") (T := TGa) (N := 9) hx hb hq inGa tyGa tyGa_ok nmGa hown hK hP hD hS 0 rfl rfl 1 (by decide) (hq _ wt_194) (fun _ h9 => h9) rfl (by decide +kernel) rfl rfl (Nat.le_of_ble_eq_true rfl) dGa_halve_28 (fun H locs hP hD hS => ?_)
    have hP : va_P (dC, dI) vwCl [(h0, ce_Ga (u3.1, r2, u3.2.2.1, u3.2.2.2.1, u3.2.2.2.2.1, u3.2.2.2.2.2.1, u3.2.2.2.2.2.2.1, u3.2.2.2.2.2.2.2.1, u3.2.2.2.2.2.2.2.2))] H := hP
    have hD : va_D A [(h0, ce_Ga (u3.1, r2, u3.2.2.1, u3.2.2.2.1, u3.2.2.2.2.1, u3.2.2.2.2.2.1, u3.2.2.2.2.2.2.1, u3.2.2.2.2.2.2.2.1, u3.2.2.2.2.2.2.2.2))] := hD
    refine lv_aload_n hx hb dGa_halve_31 rfl (lv_at hl 0 rfl) ?_
    refine lv_aload_n hx hb dGa_halve_32 rfl (lv_at hl 0 rfl) ?_
    refine va_get (D := (dC, dI)) (ci := 2) (v := .long u3.2.2.2.2.2.1) (C := "StepCourt$Game") (T := TGa) (N := 9) hx hb hq inGa hown hK hP 0 rfl rfl 5 (by decide) (hq _ wt_202) (fun _ h9 => h9) rfl dGa_halve_33 ?_
    refine va_put (D := (dC, dI)) (ci := 2) (v := .long u3.2.2.2.2.2.1) (ty := .long) (C := "StepCourt$Game") (T := TGa) (N := 9) hx hb hq inGa tyGa tyGa_ok nmGa hown hK hP hD hS 0 rfl rfl 3 (by decide) (hq _ wt_198) (fun _ h9 => h9) rfl (by decide +kernel) rfl rfl (Nat.le_of_ble_eq_true rfl) dGa_halve_36 (fun H locs hP hD hS => ?_)
    have hP : va_P (dC, dI) vwCl [(h0, ce_Ga (u3.1, r2, u3.2.2.1, u3.2.2.2.2.2.1, u3.2.2.2.2.1, u3.2.2.2.2.2.1, u3.2.2.2.2.2.2.1, u3.2.2.2.2.2.2.2.1, u3.2.2.2.2.2.2.2.2))] H := hP
    have hD : va_D A [(h0, ce_Ga (u3.1, r2, u3.2.2.1, u3.2.2.2.2.2.1, u3.2.2.2.2.1, u3.2.2.2.2.2.1, u3.2.2.2.2.2.2.1, u3.2.2.2.2.2.2.2.1, u3.2.2.2.2.2.2.2.2))] := hD
    refine lv_aload_n hx hb dGa_halve_39 rfl (lv_at hl 0 rfl) ?_
    have hPc := hP.sub (ws' := [(h0, ce_Ga (u3.1, r2, u3.2.2.1, u3.2.2.2.2.2.1, u3.2.2.2.2.1, u3.2.2.2.2.2.1, u3.2.2.2.2.2.2.1, u3.2.2.2.2.2.2.2.1, u3.2.2.2.2.2.2.2.2))]) [0] rfl
    have hDc := hD.sub (ws' := [(h0, ce_Ga (u3.1, r2, u3.2.2.1, u3.2.2.2.2.2.1, u3.2.2.2.2.1, u3.2.2.2.2.2.1, u3.2.2.2.2.2.2.1, u3.2.2.2.2.2.2.2.1, u3.2.2.2.2.2.2.2.2))]) [0] (by decide) rfl
    have hKc := hK.sub (tys' := []) [] rfl
    have hFc := va_free (wc := [(h0, ce_Ga (u3.1, r2, u3.2.2.1, u3.2.2.2.2.2.1, u3.2.2.2.2.1, u3.2.2.2.2.2.1, u3.2.2.2.2.2.2.1, u3.2.2.2.2.2.2.2.1, u3.2.2.2.2.2.2.2.2))]) hD hS hA [0] rfl
    refine va_callv (va_runV (As := []) (rest := []) ⟨hx, hb, hml, hown, hq⟩ (mt_Ga_clearMiddle l dC dI h0 H.size _ (u3.1, r2, u3.2.2.1, u3.2.2.2.2.2.1, u3.2.2.2.2.1, u3.2.2.2.2.2.1, u3.2.2.2.2.2.2.1, u3.2.2.2.2.2.2.2.1, u3.2.2.2.2.2.2.2.2) hw) ⟨cq_B 0 hq wt_616 wt_613 wt_8 rfl rfl hd_Ga_clearMiddle ⟨Nat.le_of_ble_eq_true rfl, Nat.le_of_ble_eq_true rfl⟩, (hq _ wt_615), (hq _ wv_17)⟩ ⟨kp_bl, va_recv hKc hPc (ci := 2) (q0 := 0) rfl rfl, kp_at hPc hKc hDc hZ⟩ rfl rfl hl.1 rfl (lv_room (Nat.le_of_ble_eq_true rfl)) dGa_halve_40 ⟨(by decide), (by decide)⟩) hS (fun q _ h => hFc q h) hFc (fun u5 t H1 locs ht hvm hw hB hz1 hk1 hS => ?_)
    obtain ⟨hP1, hK1, hD1⟩ := hB
    rw [ht] at hP1
    have hK1 := va_K.moved hvm.symm hK1
    obtain ⟨hP, hD⟩ := va_join (wr := []) (w1 := [(h0, ce_Ga u5)]) hP hD [0] [] rfl rfl (by decide) (by decide) hk1 hFc hP1 hD1
    have hK := (hK.sub (tys' := []) [] rfl).app hK1
    generalize H1 = H at hP hS ⊢
    have hP : va_P (dC, dI) vwCl [(h0, ce_Ga u5)] H := hP
    have hD : va_D A [(h0, ce_Ga u5)] := hD
    have hK : va_K (dC, dI) vwCl [] s := hK
    have hP9 := hP.sub (ws' := [(h0, ce_Ga u5)]) [0] rfl
    have hD9 := hD.sub (ws' := [(h0, ce_Ga u5)]) [0] (by decide) rfl
    have hK9 := hK.sub (tys' := []) [] rfl
    exact W.vret hx hb hr (fun t ht hW => ⟨⟨u5, rfl, hw, by rw [ht]; exact hP9, va_K.moved hW.alike hK9, hD9⟩, hS.F ht⟩) hS.2.2 dGa_halve_43
  · have hw := hw.2 cc1
    refine lv_aload_n hx hb dGa_halve_4 rfl (lv_at hl 0 rfl) ?_
    refine lv_aload_n hx hb dGa_halve_5 rfl (lv_at hl 0 rfl) ?_
    have hPc := hP.sub (ws' := [(h0, ce_Ga u)]) [0] rfl
    have hDc := hD.sub (ws' := [(h0, ce_Ga u)]) [0] (by decide) rfl
    have hKc := hK.sub (tys' := []) [] rfl
    have hFc := va_free (wc := [(h0, ce_Ga u)]) hD hS hA [0] rfl
    refine va_calli (va_runV (As := []) (rest := [.ref h0]) ⟨hx, hb, hml, hown, hq⟩ (mt_Ga_middleStep l dC dI h0 s.heap.size _ u hw) ⟨cq_B 0 hq wt_637 wt_653 wt_8 rfl rfl hd_Ga_middleStep ⟨Nat.le_of_ble_eq_true rfl, Nat.le_of_ble_eq_true rfl⟩, (hq _ wt_635), (hq _ wt_636)⟩ ⟨kp_bl, va_recv hKc hPc (ci := 2) (q0 := 0) rfl rfl, kp_at hPc hKc hDc hZ⟩ rfl rfl hl.1 rfl (lv_room (Nat.le_of_ble_eq_true rfl)) dGa_halve_6 ⟨(by decide), (by decide)⟩) hS (fun q _ h => hFc q h) hFc (fun r6 u7 t H1 locs ht hvm hw hB hz1 hk1 hS => ?_)
    obtain ⟨hP1, hK1, hD1⟩ := hB
    rw [ht] at hP1
    have hK1 := va_K.moved hvm.symm hK1
    obtain ⟨hP, hD⟩ := va_join (wr := []) (w1 := [(h0, ce_Ga u7)]) hP hD [0] [] rfl rfl (by decide) (by decide) hk1 hFc hP1 hD1
    have hK := (hK.sub (tys' := []) [] rfl).app hK1
    generalize H1 = H at hP hS ⊢
    have hP : va_P (dC, dI) vwCl [(h0, ce_Ga u7)] H := hP
    have hD : va_D A [(h0, ce_Ga u7)] := hD
    have hK : va_K (dC, dI) vwCl [] s := hK
    refine va_put (D := (dC, dI)) (ci := 2) (v := .int r6) (ty := .int) (C := "StepCourt$Game") (T := TGa) (N := 9) hx hb hq inGa tyGa tyGa_ok nmGa hown hK hP hD hS 0 rfl rfl 2 (by decide) (hq _ wt_196) (fun _ h9 => h9) rfl (by decide +kernel) rfl rfl (Nat.le_of_ble_eq_true rfl) dGa_halve_9 (fun H locs hP hD hS => ?_)
    have hP : va_P (dC, dI) vwCl [(h0, ce_Ga (u7.1, u7.2.1, r6, u7.2.2.2.1, u7.2.2.2.2.1, u7.2.2.2.2.2.1, u7.2.2.2.2.2.2.1, u7.2.2.2.2.2.2.2.1, u7.2.2.2.2.2.2.2.2))] H := hP
    have hD : va_D A [(h0, ce_Ga (u7.1, u7.2.1, r6, u7.2.2.2.1, u7.2.2.2.2.1, u7.2.2.2.2.2.1, u7.2.2.2.2.2.2.1, u7.2.2.2.2.2.2.2.1, u7.2.2.2.2.2.2.2.2))] := hD
    refine lv_aload_n hx hb dGa_halve_12 rfl (lv_at hl 0 rfl) ?_
    refine lv_aload_n hx hb dGa_halve_13 rfl (lv_at hl 0 rfl) ?_
    refine va_get (D := (dC, dI)) (ci := 2) (v := .long u7.2.2.2.2.2.1) (C := "StepCourt$Game") (T := TGa) (N := 9) hx hb hq inGa hown hK hP 0 rfl rfl 5 (by decide) (hq _ wt_202) (fun _ h9 => h9) rfl dGa_halve_14 ?_
    refine va_put (D := (dC, dI)) (ci := 2) (v := .long u7.2.2.2.2.2.1) (ty := .long) (C := "StepCourt$Game") (T := TGa) (N := 9) hx hb hq inGa tyGa tyGa_ok nmGa hown hK hP hD hS 0 rfl rfl 4 (by decide) (hq _ wt_200) (fun _ h9 => h9) rfl (by decide +kernel) rfl rfl (Nat.le_of_ble_eq_true rfl) dGa_halve_17 (fun H locs hP hD hS => ?_)
    have hP : va_P (dC, dI) vwCl [(h0, ce_Ga (u7.1, u7.2.1, r6, u7.2.2.2.1, u7.2.2.2.2.2.1, u7.2.2.2.2.2.1, u7.2.2.2.2.2.2.1, u7.2.2.2.2.2.2.2.1, u7.2.2.2.2.2.2.2.2))] H := hP
    have hD : va_D A [(h0, ce_Ga (u7.1, u7.2.1, r6, u7.2.2.2.1, u7.2.2.2.2.2.1, u7.2.2.2.2.2.1, u7.2.2.2.2.2.2.1, u7.2.2.2.2.2.2.2.1, u7.2.2.2.2.2.2.2.2))] := hD
    refine lv_goto (tgt := 39) hx hb dGa_halve_20 (by decide) ?_
    refine lv_aload_n hx hb dGa_halve_39 rfl (lv_at hl 0 rfl) ?_
    have hPc := hP.sub (ws' := [(h0, ce_Ga (u7.1, u7.2.1, r6, u7.2.2.2.1, u7.2.2.2.2.2.1, u7.2.2.2.2.2.1, u7.2.2.2.2.2.2.1, u7.2.2.2.2.2.2.2.1, u7.2.2.2.2.2.2.2.2))]) [0] rfl
    have hDc := hD.sub (ws' := [(h0, ce_Ga (u7.1, u7.2.1, r6, u7.2.2.2.1, u7.2.2.2.2.2.1, u7.2.2.2.2.2.1, u7.2.2.2.2.2.2.1, u7.2.2.2.2.2.2.2.1, u7.2.2.2.2.2.2.2.2))]) [0] (by decide) rfl
    have hKc := hK.sub (tys' := []) [] rfl
    have hFc := va_free (wc := [(h0, ce_Ga (u7.1, u7.2.1, r6, u7.2.2.2.1, u7.2.2.2.2.2.1, u7.2.2.2.2.2.1, u7.2.2.2.2.2.2.1, u7.2.2.2.2.2.2.2.1, u7.2.2.2.2.2.2.2.2))]) hD hS hA [0] rfl
    refine va_callv (va_runV (As := []) (rest := []) ⟨hx, hb, hml, hown, hq⟩ (mt_Ga_clearMiddle l dC dI h0 H.size _ (u7.1, u7.2.1, r6, u7.2.2.2.1, u7.2.2.2.2.2.1, u7.2.2.2.2.2.1, u7.2.2.2.2.2.2.1, u7.2.2.2.2.2.2.2.1, u7.2.2.2.2.2.2.2.2) hw) ⟨cq_B 0 hq wt_616 wt_613 wt_8 rfl rfl hd_Ga_clearMiddle ⟨Nat.le_of_ble_eq_true rfl, Nat.le_of_ble_eq_true rfl⟩, (hq _ wt_615), (hq _ wv_17)⟩ ⟨kp_bl, va_recv hKc hPc (ci := 2) (q0 := 0) rfl rfl, kp_at hPc hKc hDc hZ⟩ rfl rfl hl.1 rfl (lv_room (Nat.le_of_ble_eq_true rfl)) dGa_halve_40 ⟨(by decide), (by decide)⟩) hS (fun q _ h => hFc q h) hFc (fun u9 t H1 locs ht hvm hw hB hz1 hk1 hS => ?_)
    obtain ⟨hP1, hK1, hD1⟩ := hB
    rw [ht] at hP1
    have hK1 := va_K.moved hvm.symm hK1
    obtain ⟨hP, hD⟩ := va_join (wr := []) (w1 := [(h0, ce_Ga u9)]) hP hD [0] [] rfl rfl (by decide) (by decide) hk1 hFc hP1 hD1
    have hK := (hK.sub (tys' := []) [] rfl).app hK1
    generalize H1 = H at hP hS ⊢
    have hP : va_P (dC, dI) vwCl [(h0, ce_Ga u9)] H := hP
    have hD : va_D A [(h0, ce_Ga u9)] := hD
    have hK : va_K (dC, dI) vwCl [] s := hK
    have hP9 := hP.sub (ws' := [(h0, ce_Ga u9)]) [0] rfl
    have hD9 := hD.sub (ws' := [(h0, ce_Ga u9)]) [0] (by decide) rfl
    have hK9 := hK.sub (tys' := []) [] rfl
    exact W.vret hx hb hr (fun t ht hW => ⟨⟨u9, rfl, hw, by rw [ht]; exact hP9, va_K.moved hW.alike hK9, hD9⟩, hS.F ht⟩) hS.2.2 dGa_halve_43
abbrev ww_Ga_duty (h0 : Nat) (u : ct_Ga) : va_W := [(h0, ce_Ga u)]
def wp_Ga_duty (post : Int32 → ct_Ga → Prop) (u : ct_Ga) : Prop := ((u.2.2.2.2.2.2.2.2 = 0 → (post 0 u)) ∧ (¬ u.2.2.2.2.2.2.2.2 = 0 → (((1 < (u.2.2.1 - u.2.1) → (((u.2.2.2.2.2.2.1 = 0 → (post 1 u)) ∧ (¬ u.2.2.2.2.2.2.1 = 0 → (post 2 u))))) ∧ (¬ 1 < (u.2.2.1 - u.2.1) → (post 3 u))))))
set_option maxHeartbeats 4000000 in
set_option maxRecDepth 100000 in
theorem mt_Ga_duty (l : Launch) (dC : Nat → ClassId) (dI : Nat → Nat → Nat) (h0 : Nat) (sz : Nat) (post : Int32 → ct_Ga → Prop) (u : ct_Ga) (hw : wp_Ga_duty post u) : Met l yGa_duty wsGa_duty ({ frames := 0, cells := 0, slots := 0, locals := 0 }) (kp_P dC dI [.ref h0] sz (ww_Ga_duty h0 u) []) (va_Qi post (fun u9 => kp_B dC dI (va_A (ww_Ga_duty h0 u) sz) (ww_Ga_duty h0 u9) []) (va_A (ww_Ga_duty h0 u) sz)) 0 0 (va_A (ww_Ga_duty h0 u) sz) := by
  refine Met.ofW (cc := cGa_duty) (maxL := 1) (ret := (some .int)) (by decide) rfl ?_
  intro p e s m args below meth c s₁ B hml hv
  obtain ⟨rfl, hsz, hP, hK, hD0, hZ⟩ := hv
  have hx := B.exec
  have hb := B.bytes
  have hr := B.returns
  have hq : ∀ w ∈ wz, w.before _ s = true := fun w h => atoms_spec (ws := wsGa_duty) B.pre w (List.mem_cons_of_mem _ h)
  have hown : s.vm.findClass "StepCourt$Game" = some m.cls := findClass_of_methodNamed B.named
  have hlocks := B.notSynchronized
  subst hsz
  have hD := hD0.self (sz := s.heap.size)
  generalize hAe : va_A (ww_Ga_duty h0 u) s.heap.size = A at hD ⊢
  have hA : ∀ q : Nat, s.heap.size ≤ q → A q := fun q h => by rw [← hAe]; exact Or.inr h
  have hS : va_S A s.heap s.heap [] := va_S.rf
  have hP : va_P (dC, dI) vwCl [(h0, ce_Ga u)] s.heap := hP
  have hD : va_D A [(h0, ce_Ga u)] := hD
  have hl := lv_entry ([.ref h0]) (n := 1) (Nat.le_of_ble_eq_true rfl)
  rw [lg_entry_eq]
  generalize (lg_sl ([.ref h0]) ++ List.replicate (1 - (lg_sl ([.ref h0])).length) Slot.unset).toArray = ls at hl ⊢
  have hl : lv_has ls 1 [(0, .ref h0)] := hl
  skip
  refine lv_aload_n hx hb dGa_duty_0 rfl (lv_at hl 0 rfl) ?_
  refine va_get (D := (dC, dI)) (ci := 2) (v := .int u.2.2.2.2.2.2.2.2) (C := "StepCourt$Game") (T := TGa) (N := 9) hx hb hq inGa hown hK hP 0 rfl rfl 8 (by decide) (hq _ wt_207) (fun _ h9 => h9) rfl dGa_duty_1 ?_
  refine lv_if_ne (tgt := 9) hx hb dGa_duty_4 (by decide) (fun cc1 => ?_) (fun cc1 => ?_)
  · have hw := hw.2 cc1
    refine lv_aload_n hx hb dGa_duty_9 rfl (lv_at hl 0 rfl) ?_
    refine va_get (D := (dC, dI)) (ci := 2) (v := .int u.2.2.1) (C := "StepCourt$Game") (T := TGa) (N := 9) hx hb hq inGa hown hK hP 0 rfl rfl 2 (by decide) (hq _ wt_196) (fun _ h9 => h9) rfl dGa_duty_10 ?_
    refine lv_aload_n hx hb dGa_duty_13 rfl (lv_at hl 0 rfl) ?_
    refine va_get (D := (dC, dI)) (ci := 2) (v := .int u.2.1) (C := "StepCourt$Game") (T := TGa) (N := 9) hx hb hq inGa hown hK hP 0 rfl rfl 1 (by decide) (hq _ wt_194) (fun _ h9 => h9) rfl dGa_duty_14 ?_
    refine lv_isub hx hb dGa_duty_17 ?_
    refine lv_iconst (v := 1) hx hb dGa_duty_18 (by decide) ?_
    refine lv_icmp_gt (tgt := 24) hx hb dGa_duty_19 (by decide) (fun cc2 => ?_) (fun cc2 => ?_)
    · have hw := hw.1 cc2
      refine lv_aload_n hx hb dGa_duty_24 rfl (lv_at hl 0 rfl) ?_
      refine va_get (D := (dC, dI)) (ci := 2) (v := .int u.2.2.2.2.2.2.1) (C := "StepCourt$Game") (T := TGa) (N := 9) hx hb hq inGa hown hK hP 0 rfl rfl 6 (by decide) (hq _ wt_204) (fun _ h9 => h9) rfl dGa_duty_25 ?_
      refine lv_if_eq (tgt := 35) hx hb dGa_duty_28 (by decide) (fun cc3 => ?_) (fun cc3 => ?_)
      · have hw := hw.1 cc3
        refine lv_iconst (v := 1) hx hb dGa_duty_35 (by decide) ?_
        have hP9 := hP.sub (ws' := [(h0, ce_Ga u)]) [0] rfl
        have hD9 := hD.sub (ws' := [(h0, ce_Ga u)]) [0] (by decide) rfl
        have hK9 := hK.sub (tys' := []) [] rfl
        exact W.iret (v := 1) hx hb hr (fun t ht hW => ⟨⟨1, u, rfl, hw, by rw [ht]; exact hP9, va_K.moved hW.alike hK9, hD9⟩, hS.F ht⟩) hS.2.2 dGa_duty_36
      · have hw := hw.2 cc3
        refine lv_iconst (v := 2) hx hb dGa_duty_31 (by decide) ?_
        refine lv_goto (tgt := 36) hx hb dGa_duty_32 (by decide) ?_
        have hP9 := hP.sub (ws' := [(h0, ce_Ga u)]) [0] rfl
        have hD9 := hD.sub (ws' := [(h0, ce_Ga u)]) [0] (by decide) rfl
        have hK9 := hK.sub (tys' := []) [] rfl
        exact W.iret (v := 2) hx hb hr (fun t ht hW => ⟨⟨2, u, rfl, hw, by rw [ht]; exact hP9, va_K.moved hW.alike hK9, hD9⟩, hS.F ht⟩) hS.2.2 dGa_duty_36
    · have hw := hw.2 cc2
      refine lv_iconst (v := 3) hx hb dGa_duty_22 (by decide) ?_
      have hP9 := hP.sub (ws' := [(h0, ce_Ga u)]) [0] rfl
      have hD9 := hD.sub (ws' := [(h0, ce_Ga u)]) [0] (by decide) rfl
      have hK9 := hK.sub (tys' := []) [] rfl
      exact W.iret (v := 3) hx hb hr (fun t ht hW => ⟨⟨3, u, rfl, hw, by rw [ht]; exact hP9, va_K.moved hW.alike hK9, hD9⟩, hS.F ht⟩) hS.2.2 dGa_duty_23
  · have hw := hw.1 cc1
    refine lv_iconst (v := 0) hx hb dGa_duty_7 (by decide) ?_
    have hP9 := hP.sub (ws' := [(h0, ce_Ga u)]) [0] rfl
    have hD9 := hD.sub (ws' := [(h0, ce_Ga u)]) [0] (by decide) rfl
    have hK9 := hK.sub (tys' := []) [] rfl
    exact W.iret (v := 0) hx hb hr (fun t ht hW => ⟨⟨0, u, rfl, hw, by rw [ht]; exact hP9, va_K.moved hW.alike hK9, hD9⟩, hS.F ht⟩) hS.2.2 dGa_duty_8
abbrev ww_As_open (h0 : Nat) (u : ct_As) : va_W := [(h0, ce_As u)]
def wp_As_open (post : ct_As → Prop) (u : ct_As) (k1 : Int32) (k2 : Int32) (k3 : Int32) (k4 : Int32) : Prop := post (1, 1, k1, k2, k3, k4, u.2.2.2.2.2.2)
set_option maxHeartbeats 4000000 in
set_option maxRecDepth 100000 in
theorem mt_As_open (l : Launch) (dC : Nat → ClassId) (dI : Nat → Nat → Nat) (h0 : Nat) (sz : Nat) (post : ct_As → Prop) (u : ct_As) (k1 : Int32) (k2 : Int32) (k3 : Int32) (k4 : Int32) (hw : wp_As_open post u k1 k2 k3 k4) : Met l yAs_open wsAs_open ({ frames := 0, cells := 0, slots := 0, locals := 0 }) (kp_P dC dI [.ref h0, .int k1, .int k2, .int k3, .int k4] sz (ww_As_open h0 u) []) (va_Qv post (fun u9 => kp_B dC dI (va_A (ww_As_open h0 u) sz) (ww_As_open h0 u9) []) (va_A (ww_As_open h0 u) sz)) 0 0 (va_A (ww_As_open h0 u) sz) := by
  refine Met.ofW (cc := cAs_open) (maxL := 5) (ret := none) (by decide) rfl ?_
  intro p e s m args below meth c s₁ B hml hv
  obtain ⟨rfl, hsz, hP, hK, hD0, hZ⟩ := hv
  have hx := B.exec
  have hb := B.bytes
  have hr := B.returns
  have hq : ∀ w ∈ wz, w.before _ s = true := fun w h => atoms_spec (ws := wsAs_open) B.pre w (List.mem_cons_of_mem _ h)
  have hown : s.vm.findClass "StepCourt$Assertion" = some m.cls := findClass_of_methodNamed B.named
  have hlocks := B.notSynchronized
  subst hsz
  have hD := hD0.self (sz := s.heap.size)
  generalize hAe : va_A (ww_As_open h0 u) s.heap.size = A at hD ⊢
  have hA : ∀ q : Nat, s.heap.size ≤ q → A q := fun q h => by rw [← hAe]; exact Or.inr h
  have hS : va_S A s.heap s.heap [] := va_S.rf
  have hP : va_P (dC, dI) vwCl [(h0, ce_As u)] s.heap := hP
  have hD : va_D A [(h0, ce_As u)] := hD
  have hl := lv_entry ([.ref h0, .int k1, .int k2, .int k3, .int k4]) (n := 5) (Nat.le_of_ble_eq_true rfl)
  rw [lg_entry_eq]
  generalize (lg_sl ([.ref h0, .int k1, .int k2, .int k3, .int k4]) ++ List.replicate (5 - (lg_sl ([.ref h0, .int k1, .int k2, .int k3, .int k4])).length) Slot.unset).toArray = ls at hl ⊢
  have hl : lv_has ls 5 [(0, .ref h0), (1, .int k1), (2, .int k2), (3, .int k3), (4, .int k4)] := hl
  skip
  refine lv_aload_n hx hb dAs_open_0 rfl (lv_at hl 0 rfl) ?_
  refine lv_iconst (v := 1) hx hb dAs_open_1 (by decide) ?_
  refine va_put (D := (dC, dI)) (ci := 0) (v := .int 1) (ty := .boolean) (C := "StepCourt$Assertion") (T := TAs) (N := 7) hx hb hq inAs tyAs tyAs_ok nmAs hown hK hP hD hS 0 rfl rfl 0 (by decide) (hq _ wt_157) (fun _ h9 => h9) rfl (by decide +kernel) rfl rfl (Nat.le_of_ble_eq_true rfl) dAs_open_2 (fun H locs hP hD hS => ?_)
  have hP : va_P (dC, dI) vwCl [(h0, ce_As (1, u.2.1, u.2.2.1, u.2.2.2.1, u.2.2.2.2.1, u.2.2.2.2.2.1, u.2.2.2.2.2.2))] H := hP
  have hD : va_D A [(h0, ce_As (1, u.2.1, u.2.2.1, u.2.2.2.1, u.2.2.2.2.1, u.2.2.2.2.2.1, u.2.2.2.2.2.2))] := hD
  refine lv_aload_n hx hb dAs_open_5 rfl (lv_at hl 0 rfl) ?_
  refine lv_iconst (v := 1) hx hb dAs_open_6 (by decide) ?_
  refine va_put (D := (dC, dI)) (ci := 0) (v := .int 1) (ty := .boolean) (C := "StepCourt$Assertion") (T := TAs) (N := 7) hx hb hq inAs tyAs tyAs_ok nmAs hown hK hP hD hS 0 rfl rfl 1 (by decide) (hq _ wt_159) (fun _ h9 => h9) rfl (by decide +kernel) rfl rfl (Nat.le_of_ble_eq_true rfl) dAs_open_7 (fun H locs hP hD hS => ?_)
  have hP : va_P (dC, dI) vwCl [(h0, ce_As (1, 1, u.2.2.1, u.2.2.2.1, u.2.2.2.2.1, u.2.2.2.2.2.1, u.2.2.2.2.2.2))] H := hP
  have hD : va_D A [(h0, ce_As (1, 1, u.2.2.1, u.2.2.2.1, u.2.2.2.2.1, u.2.2.2.2.2.1, u.2.2.2.2.2.2))] := hD
  refine lv_aload_n hx hb dAs_open_10 rfl (lv_at hl 0 rfl) ?_
  refine lv_iload_n hx hb dAs_open_11 rfl (lv_at hl 1 rfl) ?_
  refine va_put (D := (dC, dI)) (ci := 0) (v := .int k1) (ty := .int) (C := "StepCourt$Assertion") (T := TAs) (N := 7) hx hb hq inAs tyAs tyAs_ok nmAs hown hK hP hD hS 0 rfl rfl 2 (by decide) (hq _ wt_161) (fun _ h9 => h9) rfl (by decide +kernel) rfl rfl (Nat.le_of_ble_eq_true rfl) dAs_open_12 (fun H locs hP hD hS => ?_)
  have hP : va_P (dC, dI) vwCl [(h0, ce_As (1, 1, k1, u.2.2.2.1, u.2.2.2.2.1, u.2.2.2.2.2.1, u.2.2.2.2.2.2))] H := hP
  have hD : va_D A [(h0, ce_As (1, 1, k1, u.2.2.2.1, u.2.2.2.2.1, u.2.2.2.2.2.1, u.2.2.2.2.2.2))] := hD
  refine lv_aload_n hx hb dAs_open_15 rfl (lv_at hl 0 rfl) ?_
  refine lv_iload_n hx hb dAs_open_16 rfl (lv_at hl 2 rfl) ?_
  refine va_put (D := (dC, dI)) (ci := 0) (v := .int k2) (ty := .int) (C := "StepCourt$Assertion") (T := TAs) (N := 7) hx hb hq inAs tyAs tyAs_ok nmAs hown hK hP hD hS 0 rfl rfl 3 (by decide) (hq _ wt_163) (fun _ h9 => h9) rfl (by decide +kernel) rfl rfl (Nat.le_of_ble_eq_true rfl) dAs_open_17 (fun H locs hP hD hS => ?_)
  have hP : va_P (dC, dI) vwCl [(h0, ce_As (1, 1, k1, k2, u.2.2.2.2.1, u.2.2.2.2.2.1, u.2.2.2.2.2.2))] H := hP
  have hD : va_D A [(h0, ce_As (1, 1, k1, k2, u.2.2.2.2.1, u.2.2.2.2.2.1, u.2.2.2.2.2.2))] := hD
  refine lv_aload_n hx hb dAs_open_20 rfl (lv_at hl 0 rfl) ?_
  refine lv_iload_n hx hb dAs_open_21 rfl (lv_at hl 3 rfl) ?_
  refine va_put (D := (dC, dI)) (ci := 0) (v := .int k3) (ty := .int) (C := "StepCourt$Assertion") (T := TAs) (N := 7) hx hb hq inAs tyAs tyAs_ok nmAs hown hK hP hD hS 0 rfl rfl 4 (by decide) (hq _ wt_165) (fun _ h9 => h9) rfl (by decide +kernel) rfl rfl (Nat.le_of_ble_eq_true rfl) dAs_open_22 (fun H locs hP hD hS => ?_)
  have hP : va_P (dC, dI) vwCl [(h0, ce_As (1, 1, k1, k2, k3, u.2.2.2.2.2.1, u.2.2.2.2.2.2))] H := hP
  have hD : va_D A [(h0, ce_As (1, 1, k1, k2, k3, u.2.2.2.2.2.1, u.2.2.2.2.2.2))] := hD
  refine lv_aload_n hx hb dAs_open_25 rfl (lv_at hl 0 rfl) ?_
  refine lv_iload hx hb dAs_open_26 (lv_at hl 4 rfl) ?_
  refine va_put (D := (dC, dI)) (ci := 0) (v := .int k4) (ty := .int) (C := "StepCourt$Assertion") (T := TAs) (N := 7) hx hb hq inAs tyAs tyAs_ok nmAs hown hK hP hD hS 0 rfl rfl 5 (by decide) (hq _ wt_167) (fun _ h9 => h9) rfl (by decide +kernel) rfl rfl (Nat.le_of_ble_eq_true rfl) dAs_open_28 (fun H locs hP hD hS => ?_)
  have hP : va_P (dC, dI) vwCl [(h0, ce_As (1, 1, k1, k2, k3, k4, u.2.2.2.2.2.2))] H := hP
  have hD : va_D A [(h0, ce_As (1, 1, k1, k2, k3, k4, u.2.2.2.2.2.2))] := hD
  have hP9 := hP.sub (ws' := [(h0, ce_As (1, 1, k1, k2, k3, k4, u.2.2.2.2.2.2))]) [0] rfl
  have hD9 := hD.sub (ws' := [(h0, ce_As (1, 1, k1, k2, k3, k4, u.2.2.2.2.2.2))]) [0] (by decide) rfl
  have hK9 := hK.sub (tys' := []) [] rfl
  exact W.vret hx hb hr (fun t ht hW => ⟨⟨(1, 1, k1, k2, k3, k4, u.2.2.2.2.2.2), rfl, hw, by rw [ht]; exact hP9, va_K.moved hW.alike hK9, hD9⟩, hS.F ht⟩) hS.2.2 dAs_open_31
abbrev ww_Pa_add (h0 h0_receivers h0_amounts h0_drawn : Nat) (c0_receivers c0_amounts : ClassId) (u : ct_Pa × (Nat → Int32) × (Nat → Int32)) : va_W := [(h0, ce_Pa h0_receivers h0_amounts h0_drawn u.1), (h0_receivers, .inl (c0_receivers, 30, .inl u.2.1)), (h0_amounts, .inl (c0_amounts, 30, .inl u.2.2))]
def wp_Pa_add (post : (ct_Pa × (Nat → Int32) × (Nat → Int32)) → Prop) (u : ct_Pa × (Nat → Int32) × (Nat → Int32)) (k1 : Int32) (k2 : Int32) : Prop := ((30 ≤ u.1 → (post (u.1, u.2.1, u.2.2))) ∧ (¬ 30 ≤ u.1 → (vp_in u.1 30 ∧ (vp_in u.1 30 ∧ (∀ f4 : Int32, f4 = (u.1 + 1) → (post (f4, (upd u.2.1 u.1.toNatClampNeg k1), (upd u.2.2 u.1.toNatClampNeg k2))))))))
set_option maxHeartbeats 4000000 in
set_option maxRecDepth 100000 in
theorem mt_Pa_add (l : Launch) (dC : Nat → ClassId) (dI : Nat → Nat → Nat) (h0 h0_receivers h0_amounts h0_drawn : Nat) (c0_receivers c0_amounts : ClassId) (sz : Nat) (post : (ct_Pa × (Nat → Int32) × (Nat → Int32)) → Prop) (u : ct_Pa × (Nat → Int32) × (Nat → Int32)) (k1 : Int32) (k2 : Int32) (hw : wp_Pa_add post u k1 k2) : Met l yPa_add wsPa_add ({ frames := 0, cells := 0, slots := 0, locals := 0 }) (kp_P dC dI [.ref h0, .int k1, .int k2] sz (ww_Pa_add h0 h0_receivers h0_amounts h0_drawn c0_receivers c0_amounts u) [(c0_receivers, .int), (c0_amounts, .int)]) (va_Qv post (fun u9 => kp_B dC dI (va_A (ww_Pa_add h0 h0_receivers h0_amounts h0_drawn c0_receivers c0_amounts u) sz) (ww_Pa_add h0 h0_receivers h0_amounts h0_drawn c0_receivers c0_amounts u9) [(c0_receivers, .int), (c0_amounts, .int)]) (va_A (ww_Pa_add h0 h0_receivers h0_amounts h0_drawn c0_receivers c0_amounts u) sz)) 0 0 (va_A (ww_Pa_add h0 h0_receivers h0_amounts h0_drawn c0_receivers c0_amounts u) sz) := by
  refine Met.ofW (cc := cPa_add) (maxL := 3) (ret := none) (by decide) rfl ?_
  intro p e s m args below meth c s₁ B hml hv
  obtain ⟨rfl, hsz, hP, hK, hD0, hZ⟩ := hv
  have hx := B.exec
  have hb := B.bytes
  have hr := B.returns
  have hq : ∀ w ∈ wz, w.before _ s = true := fun w h => atoms_spec (ws := wsPa_add) B.pre w (List.mem_cons_of_mem _ h)
  have hown : s.vm.findClass "StepCourt$Payments" = some m.cls := findClass_of_methodNamed B.named
  have hlocks := B.notSynchronized
  subst hsz
  have hD := hD0.self (sz := s.heap.size)
  generalize hAe : va_A (ww_Pa_add h0 h0_receivers h0_amounts h0_drawn c0_receivers c0_amounts u) s.heap.size = A at hD ⊢
  have hA : ∀ q : Nat, s.heap.size ≤ q → A q := fun q h => by rw [← hAe]; exact Or.inr h
  have hS : va_S A s.heap s.heap [] := va_S.rf
  have hP : va_P (dC, dI) vwCl [(h0, ce_Pa h0_receivers h0_amounts h0_drawn u.1), (h0_receivers, .inl (c0_receivers, 30, .inl u.2.1)), (h0_amounts, .inl (c0_amounts, 30, .inl u.2.2))] s.heap := hP
  have hD : va_D A [(h0, ce_Pa h0_receivers h0_amounts h0_drawn u.1), (h0_receivers, .inl (c0_receivers, 30, .inl u.2.1)), (h0_amounts, .inl (c0_amounts, 30, .inl u.2.2))] := hD
  have hl := lv_entry ([.ref h0, .int k1, .int k2]) (n := 3) (Nat.le_of_ble_eq_true rfl)
  rw [lg_entry_eq]
  generalize (lg_sl ([.ref h0, .int k1, .int k2]) ++ List.replicate (3 - (lg_sl ([.ref h0, .int k1, .int k2])).length) Slot.unset).toArray = ls at hl ⊢
  have hl : lv_has ls 3 [(0, .ref h0), (1, .int k1), (2, .int k2)] := hl
  skip
  refine lv_aload_n hx hb dPa_add_0 rfl (lv_at hl 0 rfl) ?_
  refine va_get (D := (dC, dI)) (ci := 5) (v := .int u.1) (C := "StepCourt$Payments") (T := TPa) (N := 4) hx hb hq inPa hown hK hP 0 rfl rfl 3 (by decide) (hq _ wt_117) (fun _ h9 => h9) rfl dPa_add_1 ?_
  refine lv_bipush (v := 30) hx hb dPa_add_4 (by decide) ?_
  refine lv_icmp_ge (tgt := 39) hx hb dPa_add_6 (by decide) (fun cc1 => ?_) (fun cc1 => ?_)
  · have hw := hw.1 cc1
    have hP9 := hP.sub (ws' := [(h0, ce_Pa h0_receivers h0_amounts h0_drawn u.1), (h0_receivers, .inl (c0_receivers, 30, .inl u.2.1)), (h0_amounts, .inl (c0_amounts, 30, .inl u.2.2))]) [0, 1, 2] rfl
    have hD9 := hD.sub (ws' := [(h0, ce_Pa h0_receivers h0_amounts h0_drawn u.1), (h0_receivers, .inl (c0_receivers, 30, .inl u.2.1)), (h0_amounts, .inl (c0_amounts, 30, .inl u.2.2))]) [0, 1, 2] (by decide) rfl
    have hK9 := hK.sub (tys' := [(c0_receivers, .int), (c0_amounts, .int)]) [0, 1] rfl
    exact W.vret hx hb hr (fun t ht hW => ⟨⟨(u.1, u.2.1, u.2.2), rfl, hw, by rw [ht]; exact hP9, va_K.moved hW.alike hK9, hD9⟩, hS.F ht⟩) hS.2.2 dPa_add_39
  · have hw := hw.2 cc1
    refine lv_aload_n hx hb dPa_add_9 rfl (lv_at hl 0 rfl) ?_
    refine va_get (D := (dC, dI)) (ci := 5) (v := .ref h0_receivers) (C := "StepCourt$Payments") (T := TPa) (N := 4) hx hb hq inPa hown hK hP 0 rfl rfl 0 (by decide) (hq _ wt_111) (fun _ h9 => h9) rfl dPa_add_10 ?_
    refine lv_aload_n hx hb dPa_add_13 rfl (lv_at hl 0 rfl) ?_
    refine va_get (D := (dC, dI)) (ci := 5) (v := .int u.1) (C := "StepCourt$Payments") (T := TPa) (N := 4) hx hb hq inPa hown hK hP 0 rfl rfl 3 (by decide) (hq _ wt_117) (fun _ h9 => h9) rfl dPa_add_14 ?_
    refine lv_iload_n hx hb dPa_add_17 rfl (lv_at hl 1 rfl) ?_
    obtain ⟨hh2, hw⟩ := hw
    refine va_iast hx hb hK hP hD hS 1 0 rfl rfl hh2 dPa_add_18 (fun H locs hP hD hS => ?_)
    have hP : va_P (dC, dI) vwCl [(h0, ce_Pa h0_receivers h0_amounts h0_drawn u.1), (h0_receivers, .inl (c0_receivers, 30, .inl (upd u.2.1 u.1.toNatClampNeg k1))), (h0_amounts, .inl (c0_amounts, 30, .inl u.2.2))] H := hP
    have hD : va_D A [(h0, ce_Pa h0_receivers h0_amounts h0_drawn u.1), (h0_receivers, .inl (c0_receivers, 30, .inl (upd u.2.1 u.1.toNatClampNeg k1))), (h0_amounts, .inl (c0_amounts, 30, .inl u.2.2))] := hD
    refine lv_aload_n hx hb dPa_add_19 rfl (lv_at hl 0 rfl) ?_
    refine va_get (D := (dC, dI)) (ci := 5) (v := .ref h0_amounts) (C := "StepCourt$Payments") (T := TPa) (N := 4) hx hb hq inPa hown hK hP 0 rfl rfl 1 (by decide) (hq _ wt_113) (fun _ h9 => h9) rfl dPa_add_20 ?_
    refine lv_aload_n hx hb dPa_add_23 rfl (lv_at hl 0 rfl) ?_
    refine va_get (D := (dC, dI)) (ci := 5) (v := .int u.1) (C := "StepCourt$Payments") (T := TPa) (N := 4) hx hb hq inPa hown hK hP 0 rfl rfl 3 (by decide) (hq _ wt_117) (fun _ h9 => h9) rfl dPa_add_24 ?_
    refine lv_iload_n hx hb dPa_add_27 rfl (lv_at hl 2 rfl) ?_
    obtain ⟨hh3, hw⟩ := hw
    refine va_iast hx hb hK hP hD hS 2 1 rfl rfl hh3 dPa_add_28 (fun H locs hP hD hS => ?_)
    have hP : va_P (dC, dI) vwCl [(h0, ce_Pa h0_receivers h0_amounts h0_drawn u.1), (h0_receivers, .inl (c0_receivers, 30, .inl (upd u.2.1 u.1.toNatClampNeg k1))), (h0_amounts, .inl (c0_amounts, 30, .inl (upd u.2.2 u.1.toNatClampNeg k2)))] H := hP
    have hD : va_D A [(h0, ce_Pa h0_receivers h0_amounts h0_drawn u.1), (h0_receivers, .inl (c0_receivers, 30, .inl (upd u.2.1 u.1.toNatClampNeg k1))), (h0_amounts, .inl (c0_amounts, 30, .inl (upd u.2.2 u.1.toNatClampNeg k2)))] := hD
    refine lv_aload_n hx hb dPa_add_29 rfl (lv_at hl 0 rfl) ?_
    refine lv_dup hx hb dPa_add_30 rfl ?_
    refine va_get (D := (dC, dI)) (ci := 5) (v := .int u.1) (C := "StepCourt$Payments") (T := TPa) (N := 4) hx hb hq inPa hown hK hP 0 rfl rfl 3 (by decide) (hq _ wt_117) (fun _ h9 => h9) rfl dPa_add_31 ?_
    refine lv_iconst (v := 1) hx hb dPa_add_34 (by decide) ?_
    refine lv_iadd hx hb dPa_add_35 ?_
    refine lv_topi (fun f4 ef4 => ?_)
    have hw := hw f4 ef4
    refine va_put (D := (dC, dI)) (ci := 5) (v := .int f4) (ty := .int) (C := "StepCourt$Payments") (T := TPa) (N := 4) hx hb hq inPa tyPa tyPa_ok nmPa hown hK hP hD hS 0 rfl rfl 3 (by decide) (hq _ wt_117) (fun _ h9 => h9) rfl (by decide +kernel) rfl rfl (Nat.le_of_ble_eq_true rfl) dPa_add_36 (fun H locs hP hD hS => ?_)
    have hP : va_P (dC, dI) vwCl [(h0, ce_Pa h0_receivers h0_amounts h0_drawn f4), (h0_receivers, .inl (c0_receivers, 30, .inl (upd u.2.1 u.1.toNatClampNeg k1))), (h0_amounts, .inl (c0_amounts, 30, .inl (upd u.2.2 u.1.toNatClampNeg k2)))] H := hP
    have hD : va_D A [(h0, ce_Pa h0_receivers h0_amounts h0_drawn f4), (h0_receivers, .inl (c0_receivers, 30, .inl (upd u.2.1 u.1.toNatClampNeg k1))), (h0_amounts, .inl (c0_amounts, 30, .inl (upd u.2.2 u.1.toNatClampNeg k2)))] := hD
    have hP9 := hP.sub (ws' := [(h0, ce_Pa h0_receivers h0_amounts h0_drawn f4), (h0_receivers, .inl (c0_receivers, 30, .inl (upd u.2.1 u.1.toNatClampNeg k1))), (h0_amounts, .inl (c0_amounts, 30, .inl (upd u.2.2 u.1.toNatClampNeg k2)))]) [0, 1, 2] rfl
    have hD9 := hD.sub (ws' := [(h0, ce_Pa h0_receivers h0_amounts h0_drawn f4), (h0_receivers, .inl (c0_receivers, 30, .inl (upd u.2.1 u.1.toNatClampNeg k1))), (h0_amounts, .inl (c0_amounts, 30, .inl (upd u.2.2 u.1.toNatClampNeg k2)))]) [0, 1, 2] (by decide) rfl
    have hK9 := hK.sub (tys' := [(c0_receivers, .int), (c0_amounts, .int)]) [0, 1] rfl
    exact W.vret hx hb hr (fun t ht hW => ⟨⟨(f4, (upd u.2.1 u.1.toNatClampNeg k1), (upd u.2.2 u.1.toNatClampNeg k2)), rfl, hw, by rw [ht]; exact hP9, va_K.moved hW.alike hK9, hD9⟩, hS.F ht⟩) hS.2.2 dPa_add_39
