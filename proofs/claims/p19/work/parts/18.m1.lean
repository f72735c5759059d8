theorem dMo_raise_0 : decode cMo_raise 0 = .ok (.aload_n 0, 1) := by decide +kernel
theorem dMo_raise_1 : decode cMo_raise 1 = .ok (.iload_n 1, 1) := by decide +kernel
theorem dMo_raise_2 : decode cMo_raise 2 = .ok (.putfield 83, 3) := by decide +kernel
theorem dMo_raise_5 : decode cMo_raise 5 = .ok (.iconst 0, 1) := by decide +kernel
theorem dMo_raise_6 : decode cMo_raise 6 = .ok (.ireturn, 1) := by decide +kernel
theorem dMo_take_0 : decode cMo_take 0 = .ok (.iconst 0, 1) := by decide +kernel
theorem dMo_take_1 : decode cMo_take 1 = .ok (.istore_n 1, 1) := by decide +kernel
theorem dMo_take_2 : decode cMo_take 2 = .ok (.iload_n 1, 1) := by decide +kernel
theorem dMo_take_3 : decode cMo_take 3 = .ok (.bipush 13, 2) := by decide +kernel
theorem dMo_take_5 : decode cMo_take 5 = .ok (.if_icmp .ge 21, 3) := by decide +kernel
theorem dMo_take_8 : decode cMo_take 8 = .ok (.aload_n 0, 1) := by decide +kernel
theorem dMo_take_9 : decode cMo_take 9 = .ok (.getfield 25, 3) := by decide +kernel
theorem dMo_take_12 : decode cMo_take 12 = .ok (.iload_n 1, 1) := by decide +kernel
theorem dMo_take_13 : decode cMo_take 13 = .ok (.aload_n 0, 1) := by decide +kernel
theorem dMo_take_14 : decode cMo_take 14 = .ok (.getfield 22, 3) := by decide +kernel
theorem dMo_take_17 : decode cMo_take 17 = .ok (.iload_n 1, 1) := by decide +kernel
theorem dMo_take_18 : decode cMo_take 18 = .ok (.iaload, 1) := by decide +kernel
theorem dMo_take_19 : decode cMo_take 19 = .ok (.iastore, 1) := by decide +kernel
theorem dMo_take_20 : decode cMo_take 20 = .ok (.iinc 1 1, 3) := by decide +kernel
theorem dMo_take_23 : decode cMo_take 23 = .ok (.goto (-21), 3) := by decide +kernel
theorem dMo_take_26 : decode cMo_take 26 = .ok (.aload_n 0, 1) := by decide +kernel
theorem dMo_take_27 : decode cMo_take 27 = .ok (.aload_n 0, 1) := by decide +kernel
theorem dMo_take_28 : decode cMo_take 28 = .ok (.getfield 99, 3) := by decide +kernel
theorem dMo_take_31 : decode cMo_take 31 = .ok (.putfield 102, 3) := by decide +kernel
theorem dMo_take_34 : decode cMo_take 34 = .ok (.return_, 1) := by decide +kernel
theorem dMo_tree_0 : decode cMo_tree 0 = .ok (.iconst 0, 1) := by decide +kernel
theorem dMo_tree_1 : decode cMo_tree 1 = .ok (.istore_n 1, 1) := by decide +kernel
theorem dMo_tree_2 : decode cMo_tree 2 = .ok (.iload_n 1, 1) := by decide +kernel
theorem dMo_tree_3 : decode cMo_tree 3 = .ok (.bipush 8, 2) := by decide +kernel
theorem dMo_tree_5 : decode cMo_tree 5 = .ok (.if_icmp .ge 31, 3) := by decide +kernel
theorem dMo_tree_8 : decode cMo_tree 8 = .ok (.aload_n 0, 1) := by decide +kernel
theorem dMo_tree_9 : decode cMo_tree 9 = .ok (.getfield 66, 3) := by decide +kernel
theorem dMo_tree_12 : decode cMo_tree 12 = .ok (.bipush 8, 2) := by decide +kernel
theorem dMo_tree_14 : decode cMo_tree 14 = .ok (.iload_n 1, 1) := by decide +kernel
theorem dMo_tree_15 : decode cMo_tree 15 = .ok (.iadd, 1) := by decide +kernel
theorem dMo_tree_16 : decode cMo_tree 16 = .ok (.lconst 1, 1) := by decide +kernel
theorem dMo_tree_17 : decode cMo_tree 17 = .ok (.aload_n 0, 1) := by decide +kernel
theorem dMo_tree_18 : decode cMo_tree 18 = .ok (.getfield 25, 3) := by decide +kernel
theorem dMo_tree_21 : decode cMo_tree 21 = .ok (.iconst 5, 1) := by decide +kernel
theorem dMo_tree_22 : decode cMo_tree 22 = .ok (.iload_n 1, 1) := by decide +kernel
theorem dMo_tree_23 : decode cMo_tree 23 = .ok (.iadd, 1) := by decide +kernel
theorem dMo_tree_24 : decode cMo_tree 24 = .ok (.iaload, 1) := by decide +kernel
theorem dMo_tree_25 : decode cMo_tree 25 = .ok (.i2l, 1) := by decide +kernel
theorem dMo_tree_26 : decode cMo_tree 26 = .ok (.invokestatic 95, 3) := by decide +kernel
theorem dMo_tree_29 : decode cMo_tree 29 = .ok (.lastore, 1) := by decide +kernel
theorem dMo_tree_30 : decode cMo_tree 30 = .ok (.iinc 1 1, 3) := by decide +kernel
theorem dMo_tree_33 : decode cMo_tree 33 = .ok (.goto (-31), 3) := by decide +kernel
theorem dMo_tree_36 : decode cMo_tree 36 = .ok (.bipush 7, 2) := by decide +kernel
theorem dMo_tree_38 : decode cMo_tree 38 = .ok (.istore_n 1, 1) := by decide +kernel
theorem dMo_tree_39 : decode cMo_tree 39 = .ok (.iload_n 1, 1) := by decide +kernel
theorem dMo_tree_40 : decode cMo_tree 40 = .ok (.iconst 1, 1) := by decide +kernel
theorem dMo_tree_41 : decode cMo_tree 41 = .ok (.if_icmp .lt 36, 3) := by decide +kernel
theorem dMo_tree_44 : decode cMo_tree 44 = .ok (.aload_n 0, 1) := by decide +kernel
theorem dMo_tree_45 : decode cMo_tree 45 = .ok (.getfield 66, 3) := by decide +kernel
theorem dMo_tree_48 : decode cMo_tree 48 = .ok (.iload_n 1, 1) := by decide +kernel
theorem dMo_tree_49 : decode cMo_tree 49 = .ok (.aload_n 0, 1) := by decide +kernel
theorem dMo_tree_50 : decode cMo_tree 50 = .ok (.getfield 66, 3) := by decide +kernel
theorem dMo_tree_53 : decode cMo_tree 53 = .ok (.iconst 2, 1) := by decide +kernel
theorem dMo_tree_54 : decode cMo_tree 54 = .ok (.iload_n 1, 1) := by decide +kernel
theorem dMo_tree_55 : decode cMo_tree 55 = .ok (.imul, 1) := by decide +kernel
theorem dMo_tree_56 : decode cMo_tree 56 = .ok (.laload, 1) := by decide +kernel
theorem dMo_tree_57 : decode cMo_tree 57 = .ok (.aload_n 0, 1) := by decide +kernel
theorem dMo_tree_58 : decode cMo_tree 58 = .ok (.getfield 66, 3) := by decide +kernel
theorem dMo_tree_61 : decode cMo_tree 61 = .ok (.iconst 2, 1) := by decide +kernel
theorem dMo_tree_62 : decode cMo_tree 62 = .ok (.iload_n 1, 1) := by decide +kernel
theorem dMo_tree_63 : decode cMo_tree 63 = .ok (.imul, 1) := by decide +kernel
theorem dMo_tree_64 : decode cMo_tree 64 = .ok (.iconst 1, 1) := by decide +kernel
theorem dMo_tree_65 : decode cMo_tree 65 = .ok (.iadd, 1) := by decide +kernel
theorem dMo_tree_66 : decode cMo_tree 66 = .ok (.laload, 1) := by decide +kernel
theorem dMo_tree_67 : decode cMo_tree 67 = .ok (.invokestatic 105, 3) := by decide +kernel
theorem dMo_tree_70 : decode cMo_tree 70 = .ok (.lastore, 1) := by decide +kernel
theorem dMo_tree_71 : decode cMo_tree 71 = .ok (.iinc 1 (-1), 3) := by decide +kernel
theorem dMo_tree_74 : decode cMo_tree 74 = .ok (.goto (-35), 3) := by decide +kernel
theorem dMo_tree_77 : decode cMo_tree 77 = .ok (.return_, 1) := by decide +kernel
theorem dMo_commitment_0 : decode cMo_commitment 0 = .ok (.aload_n 0, 1) := by decide +kernel
theorem dMo_commitment_1 : decode cMo_commitment 1 = .ok (.invokevirtual 108, 3) := by decide +kernel
theorem dMo_commitment_4 : decode cMo_commitment 4 = .ok (.aload_n 0, 1) := by decide +kernel
theorem dMo_commitment_5 : decode cMo_commitment 5 = .ok (.getfield 25, 3) := by decide +kernel
theorem dMo_commitment_8 : decode cMo_commitment 8 = .ok (.iconst 0, 1) := by decide +kernel
theorem dMo_commitment_9 : decode cMo_commitment 9 = .ok (.iaload, 1) := by decide +kernel
theorem dMo_commitment_10 : decode cMo_commitment 10 = .ok (.i2l, 1) := by decide +kernel
theorem dMo_commitment_11 : decode cMo_commitment 11 = .ok (.aload_n 0, 1) := by decide +kernel
theorem dMo_commitment_12 : decode cMo_commitment 12 = .ok (.getfield 25, 3) := by decide +kernel
theorem dMo_commitment_15 : decode cMo_commitment 15 = .ok (.iconst 1, 1) := by decide +kernel
theorem dMo_commitment_16 : decode cMo_commitment 16 = .ok (.iaload, 1) := by decide +kernel
theorem dMo_commitment_17 : decode cMo_commitment 17 = .ok (.i2l, 1) := by decide +kernel
theorem dMo_commitment_18 : decode cMo_commitment 18 = .ok (.aload_n 0, 1) := by decide +kernel
theorem dMo_commitment_19 : decode cMo_commitment 19 = .ok (.getfield 25, 3) := by decide +kernel
theorem dMo_commitment_22 : decode cMo_commitment 22 = .ok (.iconst 2, 1) := by decide +kernel
theorem dMo_commitment_23 : decode cMo_commitment 23 = .ok (.iaload, 1) := by decide +kernel
theorem dMo_commitment_24 : decode cMo_commitment 24 = .ok (.i2l, 1) := by decide +kernel
theorem dMo_commitment_25 : decode cMo_commitment 25 = .ok (.aload_n 0, 1) := by decide +kernel
theorem dMo_commitment_26 : decode cMo_commitment 26 = .ok (.getfield 25, 3) := by decide +kernel
theorem dMo_commitment_29 : decode cMo_commitment 29 = .ok (.iconst 3, 1) := by decide +kernel
theorem dMo_commitment_30 : decode cMo_commitment 30 = .ok (.iaload, 1) := by decide +kernel
theorem dMo_commitment_31 : decode cMo_commitment 31 = .ok (.i2l, 1) := by decide +kernel
theorem dMo_commitment_32 : decode cMo_commitment 32 = .ok (.aload_n 0, 1) := by decide +kernel
theorem dMo_commitment_33 : decode cMo_commitment 33 = .ok (.getfield 25, 3) := by decide +kernel
theorem dMo_commitment_36 : decode cMo_commitment 36 = .ok (.iconst 4, 1) := by decide +kernel
theorem dMo_commitment_37 : decode cMo_commitment 37 = .ok (.iaload, 1) := by decide +kernel
theorem dMo_commitment_38 : decode cMo_commitment 38 = .ok (.i2l, 1) := by decide +kernel
theorem dMo_commitment_39 : decode cMo_commitment 39 = .ok (.aload_n 0, 1) := by decide +kernel
theorem dMo_commitment_40 : decode cMo_commitment 40 = .ok (.getfield 102, 3) := by decide +kernel
theorem dMo_commitment_43 : decode cMo_commitment 43 = .ok (.aload_n 0, 1) := by decide +kernel
theorem dMo_commitment_44 : decode cMo_commitment 44 = .ok (.getfield 66, 3) := by decide +kernel
theorem dMo_commitment_47 : decode cMo_commitment 47 = .ok (.iconst 1, 1) := by decide +kernel
theorem dMo_commitment_48 : decode cMo_commitment 48 = .ok (.laload, 1) := by decide +kernel
theorem dMo_commitment_49 : decode cMo_commitment 49 = .ok (.invokestatic 111, 3) := by decide +kernel
theorem dMo_commitment_52 : decode cMo_commitment 52 = .ok (.lreturn, 1) := by decide +kernel
theorem dMo_wordAt_0 : decode cMo_wordAt 0 = .ok (.iload_n 1, 1) := by decide +kernel
theorem dMo_wordAt_1 : decode cMo_wordAt 1 = .ok (.ifCond .lt 20, 3) := by decide +kernel
theorem dMo_wordAt_4 : decode cMo_wordAt 4 = .ok (.iload_n 1, 1) := by decide +kernel
theorem dMo_wordAt_5 : decode cMo_wordAt 5 = .ok (.aload_n 0, 1) := by decide +kernel
theorem dMo_wordAt_6 : decode cMo_wordAt 6 = .ok (.getfield 115, 3) := by decide +kernel
theorem dMo_wordAt_9 : decode cMo_wordAt 9 = .ok (.if_icmp .ge 12, 3) := by decide +kernel
theorem dMo_wordAt_12 : decode cMo_wordAt 12 = .ok (.aload_n 0, 1) := by decide +kernel
theorem dMo_wordAt_13 : decode cMo_wordAt 13 = .ok (.getfield 19, 3) := by decide +kernel
theorem dMo_wordAt_16 : decode cMo_wordAt 16 = .ok (.iload_n 1, 1) := by decide +kernel
theorem dMo_wordAt_17 : decode cMo_wordAt 17 = .ok (.iaload, 1) := by decide +kernel
theorem dMo_wordAt_18 : decode cMo_wordAt 18 = .ok (.goto 4, 3) := by decide +kernel
theorem dMo_wordAt_21 : decode cMo_wordAt 21 = .ok (.iconst 0, 1) := by decide +kernel
theorem dMo_wordAt_22 : decode cMo_wordAt 22 = .ok (.ireturn, 1) := by decide +kernel
abbrev ww_Mo_raise (h0 h0_op h0_argument h0_balance h0_inbox h0_real h0_hand h0_payee h0_paid h0_drawn h0_challenger h0_low h0_high h0_agreed h0_disputed h0_posted h0_middle h0_deadline h0_running h0_node h0_side : Nat) (u : ct_Mo) : va_W := [(h0, ce_Mo h0_op h0_argument h0_balance h0_inbox h0_real h0_hand h0_payee h0_paid h0_drawn h0_challenger h0_low h0_high h0_agreed h0_disputed h0_posted h0_middle h0_deadline h0_running h0_node h0_side u)]
def wp_Mo_raise (post : Int32 → ct_Mo → Prop) (u : ct_Mo) (k1 : Int32) : Prop := post 0 (k1, u.2.1, u.2.2.1, u.2.2.2.1, u.2.2.2.2.1, u.2.2.2.2.2.1, u.2.2.2.2.2.2.1, u.2.2.2.2.2.2.2.1, u.2.2.2.2.2.2.2.2.1, u.2.2.2.2.2.2.2.2.2.1, u.2.2.2.2.2.2.2.2.2.2.1, u.2.2.2.2.2.2.2.2.2.2.2.1, u.2.2.2.2.2.2.2.2.2.2.2.2.1, u.2.2.2.2.2.2.2.2.2.2.2.2.2.1, u.2.2.2.2.2.2.2.2.2.2.2.2.2.2)
set_option maxHeartbeats 4000000 in
set_option maxRecDepth 100000 in
theorem mt_Mo_raise (l : Launch) (dC : Nat → ClassId) (dI : Nat → Nat → Nat) (h0 h0_op h0_argument h0_balance h0_inbox h0_real h0_hand h0_payee h0_paid h0_drawn h0_challenger h0_low h0_high h0_agreed h0_disputed h0_posted h0_middle h0_deadline h0_running h0_node h0_side : Nat) (sz : Nat) (post : Int32 → ct_Mo → Prop) (u : ct_Mo) (k1 : Int32) (hw : wp_Mo_raise post u k1) : Met l yMo_raise wsMo_raise ({ frames := 0, cells := 0, slots := 0, locals := 0 }) (kp_P dC dI [.ref h0, .int k1] sz (ww_Mo_raise h0 h0_op h0_argument h0_balance h0_inbox h0_real h0_hand h0_payee h0_paid h0_drawn h0_challenger h0_low h0_high h0_agreed h0_disputed h0_posted h0_middle h0_deadline h0_running h0_node h0_side u) []) (va_Qi post (fun u9 => kp_B dC dI (va_A (ww_Mo_raise h0 h0_op h0_argument h0_balance h0_inbox h0_real h0_hand h0_payee h0_paid h0_drawn h0_challenger h0_low h0_high h0_agreed h0_disputed h0_posted h0_middle h0_deadline h0_running h0_node h0_side u) sz) (ww_Mo_raise h0 h0_op h0_argument h0_balance h0_inbox h0_real h0_hand h0_payee h0_paid h0_drawn h0_challenger h0_low h0_high h0_agreed h0_disputed h0_posted h0_middle h0_deadline h0_running h0_node h0_side u9) []) (va_A (ww_Mo_raise h0 h0_op h0_argument h0_balance h0_inbox h0_real h0_hand h0_payee h0_paid h0_drawn h0_challenger h0_low h0_high h0_agreed h0_disputed h0_posted h0_middle h0_deadline h0_running h0_node h0_side u) sz)) 0 0 (va_A (ww_Mo_raise h0 h0_op h0_argument h0_balance h0_inbox h0_real h0_hand h0_payee h0_paid h0_drawn h0_challenger h0_low h0_high h0_agreed h0_disputed h0_posted h0_middle h0_deadline h0_running h0_node h0_side u) sz) := by
  refine Met.ofW (cc := cMo_raise) (maxL := 2) (ret := (some .int)) (by decide) rfl ?_
  intro p e s m args below meth c s₁ B hml hv
  obtain ⟨rfl, hsz, hP, hK, hD0, hZ⟩ := hv
  have hx := B.exec
  have hb := B.bytes
  have hr := B.returns
  have hq : ∀ w ∈ wz, w.before _ s = true := fun w h => atoms_spec (ws := wsMo_raise) B.pre w (List.mem_cons_of_mem _ h)
  have hown : s.vm.findClass "StepCourtModel" = some m.cls := findClass_of_methodNamed B.named
  have hlocks := B.notSynchronized
  subst hsz
  have hD := hD0.self (sz := s.heap.size)
  generalize hAe : va_A (ww_Mo_raise h0 h0_op h0_argument h0_balance h0_inbox h0_real h0_hand h0_payee h0_paid h0_drawn h0_challenger h0_low h0_high h0_agreed h0_disputed h0_posted h0_middle h0_deadline h0_running h0_node h0_side u) s.heap.size = A at hD ⊢
  have hA : ∀ q : Nat, s.heap.size ≤ q → A q := fun q h => by rw [← hAe]; exact Or.inr h
  have hS : va_S A s.heap s.heap [] := va_S.rf
  have hP : va_P (dC, dI) vwCl [(h0, ce_Mo h0_op h0_argument h0_balance h0_inbox h0_real h0_hand h0_payee h0_paid h0_drawn h0_challenger h0_low h0_high h0_agreed h0_disputed h0_posted h0_middle h0_deadline h0_running h0_node h0_side u)] s.heap := hP
  have hD : va_D A [(h0, ce_Mo h0_op h0_argument h0_balance h0_inbox h0_real h0_hand h0_payee h0_paid h0_drawn h0_challenger h0_low h0_high h0_agreed h0_disputed h0_posted h0_middle h0_deadline h0_running h0_node h0_side u)] := hD
  have hl := lv_entry ([.ref h0, .int k1]) (n := 2) (Nat.le_of_ble_eq_true rfl)
  rw [lg_entry_eq]
  generalize (lg_sl ([.ref h0, .int k1]) ++ List.replicate (2 - (lg_sl ([.ref h0, .int k1])).length) Slot.unset).toArray = ls at hl ⊢
  have hl : lv_has ls 2 [(0, .ref h0), (1, .int k1)] := hl
  skip
  refine lv_aload_n hx hb dMo_raise_0 rfl (lv_at hl 0 rfl) ?_
  refine lv_iload_n hx hb dMo_raise_1 rfl (lv_at hl 1 rfl) ?_
  refine va_put (D := (dC, dI)) (ci := 8) (v := .int k1) (ty := .int) (C := "StepCourtModel") (T := TMo) (N := 35) hx hb hq inMo tyMo tyMo_ok nmMo hown hK hP hD hS 0 rfl rfl 0 (by decide) (hq _ wt_734) (fun _ h9 => h9) rfl (by decide +kernel) rfl rfl (Nat.le_of_ble_eq_true rfl) dMo_raise_2 (fun H locs hP hD hS => ?_)
  have hP : va_P (dC, dI) vwCl [(h0, ce_Mo h0_op h0_argument h0_balance h0_inbox h0_real h0_hand h0_payee h0_paid h0_drawn h0_challenger h0_low h0_high h0_agreed h0_disputed h0_posted h0_middle h0_deadline h0_running h0_node h0_side (k1, u.2.1, u.2.2.1, u.2.2.2.1, u.2.2.2.2.1, u.2.2.2.2.2.1, u.2.2.2.2.2.2.1, u.2.2.2.2.2.2.2.1, u.2.2.2.2.2.2.2.2.1, u.2.2.2.2.2.2.2.2.2.1, u.2.2.2.2.2.2.2.2.2.2.1, u.2.2.2.2.2.2.2.2.2.2.2.1, u.2.2.2.2.2.2.2.2.2.2.2.2.1, u.2.2.2.2.2.2.2.2.2.2.2.2.2.1, u.2.2.2.2.2.2.2.2.2.2.2.2.2.2))] H := hP
  have hD : va_D A [(h0, ce_Mo h0_op h0_argument h0_balance h0_inbox h0_real h0_hand h0_payee h0_paid h0_drawn h0_challenger h0_low h0_high h0_agreed h0_disputed h0_posted h0_middle h0_deadline h0_running h0_node h0_side (k1, u.2.1, u.2.2.1, u.2.2.2.1, u.2.2.2.2.1, u.2.2.2.2.2.1, u.2.2.2.2.2.2.1, u.2.2.2.2.2.2.2.1, u.2.2.2.2.2.2.2.2.1, u.2.2.2.2.2.2.2.2.2.1, u.2.2.2.2.2.2.2.2.2.2.1, u.2.2.2.2.2.2.2.2.2.2.2.1, u.2.2.2.2.2.2.2.2.2.2.2.2.1, u.2.2.2.2.2.2.2.2.2.2.2.2.2.1, u.2.2.2.2.2.2.2.2.2.2.2.2.2.2))] := hD
  refine lv_iconst (v := 0) hx hb dMo_raise_5 (by decide) ?_
  have hP9 := hP.sub (ws' := [(h0, ce_Mo h0_op h0_argument h0_balance h0_inbox h0_real h0_hand h0_payee h0_paid h0_drawn h0_challenger h0_low h0_high h0_agreed h0_disputed h0_posted h0_middle h0_deadline h0_running h0_node h0_side (k1, u.2.1, u.2.2.1, u.2.2.2.1, u.2.2.2.2.1, u.2.2.2.2.2.1, u.2.2.2.2.2.2.1, u.2.2.2.2.2.2.2.1, u.2.2.2.2.2.2.2.2.1, u.2.2.2.2.2.2.2.2.2.1, u.2.2.2.2.2.2.2.2.2.2.1, u.2.2.2.2.2.2.2.2.2.2.2.1, u.2.2.2.2.2.2.2.2.2.2.2.2.1, u.2.2.2.2.2.2.2.2.2.2.2.2.2.1, u.2.2.2.2.2.2.2.2.2.2.2.2.2.2))]) [0] rfl
  have hD9 := hD.sub (ws' := [(h0, ce_Mo h0_op h0_argument h0_balance h0_inbox h0_real h0_hand h0_payee h0_paid h0_drawn h0_challenger h0_low h0_high h0_agreed h0_disputed h0_posted h0_middle h0_deadline h0_running h0_node h0_side (k1, u.2.1, u.2.2.1, u.2.2.2.1, u.2.2.2.2.1, u.2.2.2.2.2.1, u.2.2.2.2.2.2.1, u.2.2.2.2.2.2.2.1, u.2.2.2.2.2.2.2.2.1, u.2.2.2.2.2.2.2.2.2.1, u.2.2.2.2.2.2.2.2.2.2.1, u.2.2.2.2.2.2.2.2.2.2.2.1, u.2.2.2.2.2.2.2.2.2.2.2.2.1, u.2.2.2.2.2.2.2.2.2.2.2.2.2.1, u.2.2.2.2.2.2.2.2.2.2.2.2.2.2))]) [0] (by decide) rfl
  have hK9 := hK.sub (tys' := []) [] rfl
  exact W.iret (v := 0) hx hb hr (fun t ht hW => ⟨⟨0, (k1, u.2.1, u.2.2.1, u.2.2.2.1, u.2.2.2.2.1, u.2.2.2.2.2.1, u.2.2.2.2.2.2.1, u.2.2.2.2.2.2.2.1, u.2.2.2.2.2.2.2.2.1, u.2.2.2.2.2.2.2.2.2.1, u.2.2.2.2.2.2.2.2.2.2.1, u.2.2.2.2.2.2.2.2.2.2.2.1, u.2.2.2.2.2.2.2.2.2.2.2.2.1, u.2.2.2.2.2.2.2.2.2.2.2.2.2.1, u.2.2.2.2.2.2.2.2.2.2.2.2.2.2), rfl, hw, by rw [ht]; exact hP9, va_K.moved hW.alike hK9, hD9⟩, hS.F ht⟩) hS.2.2 dMo_raise_6
abbrev ww_Mo_take (h0 h0_real h0_hand h0_op h0_argument h0_balance h0_inbox h0_payee h0_paid h0_drawn h0_challenger h0_low h0_high h0_agreed h0_disputed h0_posted h0_middle h0_deadline h0_running h0_node h0_side : Nat) (c0_real c0_hand : ClassId) (u : ct_Mo × (Nat → Int32) × (Nat → Int32)) : va_W := [(h0, ce_Mo h0_op h0_argument h0_balance h0_inbox h0_real h0_hand h0_payee h0_paid h0_drawn h0_challenger h0_low h0_high h0_agreed h0_disputed h0_posted h0_middle h0_deadline h0_running h0_node h0_side u.1), (h0_real, .inl (c0_real, 13, .inl u.2.1)), (h0_hand, .inl (c0_hand, 13, .inl u.2.2))]
def wl_Mo_take_2 (post : (ct_Mo × (Nat → Int32) × (Nat → Int32)) → Prop) (u : ct_Mo × (Nat → Int32) × (Nat → Int32)) : Nat → (Int32) → (Nat → Int32) → Prop
  | 0, _, _ => False
  | n5 + 1, v6, x7 => ((13 ≤ v6 → (post ((u.1.1, u.1.2.1, u.1.2.2.1, u.1.2.2.2.1, u.1.2.2.2.2.1, u.1.2.2.2.2.2.1, u.1.2.2.2.2.2.1, u.1.2.2.2.2.2.2.2.1, u.1.2.2.2.2.2.2.2.2.1, u.1.2.2.2.2.2.2.2.2.2.1, u.1.2.2.2.2.2.2.2.2.2.2.1, u.1.2.2.2.2.2.2.2.2.2.2.2.1, u.1.2.2.2.2.2.2.2.2.2.2.2.2.1, u.1.2.2.2.2.2.2.2.2.2.2.2.2.2.1, u.1.2.2.2.2.2.2.2.2.2.2.2.2.2.2), u.2.1, x7))) ∧ (¬ 13 ≤ v6 → (vp_in v6 13 ∧ (∀ f10 : Int32, f10 = (u.2.1 v6.toNatClampNeg) → (vp_in v6 13 ∧ (wl_Mo_take_2 post u n5 (v6 + 1) (upd x7 v6.toNatClampNeg f10)))))))
def wp_Mo_take (post : (ct_Mo × (Nat → Int32) × (Nat → Int32)) → Prop) (u : ct_Mo × (Nat → Int32) × (Nat → Int32)) : Prop := ∃ n5 : Nat, wl_Mo_take_2 post u n5 0 u.2.2
set_option maxHeartbeats 4000000 in
set_option maxRecDepth 100000 in
theorem mt_Mo_take (l : Launch) (dC : Nat → ClassId) (dI : Nat → Nat → Nat) (h0 h0_real h0_hand h0_op h0_argument h0_balance h0_inbox h0_payee h0_paid h0_drawn h0_challenger h0_low h0_high h0_agreed h0_disputed h0_posted h0_middle h0_deadline h0_running h0_node h0_side : Nat) (c0_real c0_hand : ClassId) (sz : Nat) (post : (ct_Mo × (Nat → Int32) × (Nat → Int32)) → Prop) (u : ct_Mo × (Nat → Int32) × (Nat → Int32)) (hw : wp_Mo_take post u) : Met l yMo_take wsMo_take ({ frames := 0, cells := 0, slots := 0, locals := 0 }) (kp_P dC dI [.ref h0] sz (ww_Mo_take h0 h0_real h0_hand h0_op h0_argument h0_balance h0_inbox h0_payee h0_paid h0_drawn h0_challenger h0_low h0_high h0_agreed h0_disputed h0_posted h0_middle h0_deadline h0_running h0_node h0_side c0_real c0_hand u) [(c0_real, .int), (c0_hand, .int)]) (va_Qv post (fun u9 => kp_B dC dI (va_A (ww_Mo_take h0 h0_real h0_hand h0_op h0_argument h0_balance h0_inbox h0_payee h0_paid h0_drawn h0_challenger h0_low h0_high h0_agreed h0_disputed h0_posted h0_middle h0_deadline h0_running h0_node h0_side c0_real c0_hand u) sz) (ww_Mo_take h0 h0_real h0_hand h0_op h0_argument h0_balance h0_inbox h0_payee h0_paid h0_drawn h0_challenger h0_low h0_high h0_agreed h0_disputed h0_posted h0_middle h0_deadline h0_running h0_node h0_side c0_real c0_hand u9) [(c0_real, .int), (c0_hand, .int)]) (va_A (ww_Mo_take h0 h0_real h0_hand h0_op h0_argument h0_balance h0_inbox h0_payee h0_paid h0_drawn h0_challenger h0_low h0_high h0_agreed h0_disputed h0_posted h0_middle h0_deadline h0_running h0_node h0_side c0_real c0_hand u) sz)) 0 0 (va_A (ww_Mo_take h0 h0_real h0_hand h0_op h0_argument h0_balance h0_inbox h0_payee h0_paid h0_drawn h0_challenger h0_low h0_high h0_agreed h0_disputed h0_posted h0_middle h0_deadline h0_running h0_node h0_side c0_real c0_hand u) sz) := by
  refine Met.ofW (cc := cMo_take) (maxL := 2) (ret := none) (by decide) rfl ?_
  intro p e s m args below meth c s₁ B hml hv
  obtain ⟨rfl, hsz, hP, hK, hD0, hZ⟩ := hv
  have hx := B.exec
  have hb := B.bytes
  have hr := B.returns
  have hq : ∀ w ∈ wz, w.before _ s = true := fun w h => atoms_spec (ws := wsMo_take) B.pre w (List.mem_cons_of_mem _ h)
  have hown : s.vm.findClass "StepCourtModel" = some m.cls := findClass_of_methodNamed B.named
  have hlocks := B.notSynchronized
  subst hsz
  have hD := hD0.self (sz := s.heap.size)
  generalize hAe : va_A (ww_Mo_take h0 h0_real h0_hand h0_op h0_argument h0_balance h0_inbox h0_payee h0_paid h0_drawn h0_challenger h0_low h0_high h0_agreed h0_disputed h0_posted h0_middle h0_deadline h0_running h0_node h0_side c0_real c0_hand u) s.heap.size = A at hD ⊢
  have hA : ∀ q : Nat, s.heap.size ≤ q → A q := fun q h => by rw [← hAe]; exact Or.inr h
  have hS : va_S A s.heap s.heap [] := va_S.rf
  have hP : va_P (dC, dI) vwCl [(h0, ce_Mo h0_op h0_argument h0_balance h0_inbox h0_real h0_hand h0_payee h0_paid h0_drawn h0_challenger h0_low h0_high h0_agreed h0_disputed h0_posted h0_middle h0_deadline h0_running h0_node h0_side u.1), (h0_real, .inl (c0_real, 13, .inl u.2.1)), (h0_hand, .inl (c0_hand, 13, .inl u.2.2))] s.heap := hP
  have hD : va_D A [(h0, ce_Mo h0_op h0_argument h0_balance h0_inbox h0_real h0_hand h0_payee h0_paid h0_drawn h0_challenger h0_low h0_high h0_agreed h0_disputed h0_posted h0_middle h0_deadline h0_running h0_node h0_side u.1), (h0_real, .inl (c0_real, 13, .inl u.2.1)), (h0_hand, .inl (c0_hand, 13, .inl u.2.2))] := hD
  have hl := lv_entry ([.ref h0]) (n := 2) (Nat.le_of_ble_eq_true rfl)
  rw [lg_entry_eq]
  generalize (lg_sl ([.ref h0]) ++ List.replicate (2 - (lg_sl ([.ref h0])).length) Slot.unset).toArray = ls at hl ⊢
  have hl : lv_has ls 2 [(0, .ref h0)] := hl
  skip
  refine lv_iconst (v := 0) hx hb dMo_take_0 (by decide) ?_
  refine lv_istore_n (lv' := [(1, .int 0), (0, .ref h0)]) hx hb dMo_take_1 rfl hl (by decide) rfl (fun ls hl => ?_)
  have hlp2 : ∀ (n5 : Nat) (v6 : Int32) (x7 : Nat → Int32) (H : Heap) (locs : List Loc) (ls : Array Slot), wl_Mo_take_2 post u n5 v6 x7 → va_P (dC, dI) vwCl [(h0, ce_Mo h0_op h0_argument h0_balance h0_inbox h0_real h0_hand h0_payee h0_paid h0_drawn h0_challenger h0_low h0_high h0_agreed h0_disputed h0_posted h0_middle h0_deadline h0_running h0_node h0_side u.1), (h0_real, .inl (c0_real, 13, .inl u.2.1)), (h0_hand, .inl (c0_hand, 13, .inl x7))] H → va_D A [(h0, ce_Mo h0_op h0_argument h0_balance h0_inbox h0_real h0_hand h0_payee h0_paid h0_drawn h0_challenger h0_low h0_high h0_agreed h0_disputed h0_posted h0_middle h0_deadline h0_running h0_node h0_side u.1), (h0_real, .inl (c0_real, 13, .inl u.2.1)), (h0_hand, .inl (c0_hand, 13, .inl x7))] → va_S A s.heap H locs → lv_has ls 2 [(1, .int v6), (0, .ref h0)] → W p l e (headSpec wsMo_take ({ frames := 0, cells := 0, slots := 0, locals := 0 })).room s m ([.ref h0]).toArray below meth c H locs 0 0 (MQ below (va_Qv post (fun u9 => kp_B dC dI A (ww_Mo_take h0 h0_real h0_hand h0_op h0_argument h0_balance h0_inbox h0_payee h0_paid h0_drawn h0_challenger h0_low h0_high h0_agreed h0_disputed h0_posted h0_middle h0_deadline h0_running h0_node h0_side c0_real c0_hand u9) [(c0_real, .int), (c0_hand, .int)]) A) ([.ref h0]).toArray s 0 0 A) (F0 m 2 ls []) := by
    intro n5
    induction n5 with
    | zero => intro v6 x7 H locs ls hw; exact False.elim hw
    | succ n5 ih2 =>
      intro v6 x7 H locs ls hw hP hD hS hl
      refine lv_iload_n hx hb dMo_take_2 rfl (lv_at hl 0 rfl) ?_
      refine lv_bipush (v := 13) hx hb dMo_take_3 (by decide) ?_
      refine lv_icmp_ge (tgt := 26) hx hb dMo_take_5 (by decide) (fun cc8 => ?_) (fun cc8 => ?_)
      · have hw := hw.1 cc8
        refine lv_aload_n hx hb dMo_take_26 rfl (lv_at hl 1 rfl) ?_
        refine lv_aload_n hx hb dMo_take_27 rfl (lv_at hl 1 rfl) ?_
        refine va_get (D := (dC, dI)) (ci := 8) (v := .long u.1.2.2.2.2.2.1) (C := "StepCourtModel") (T := TMo) (N := 35) hx hb hq inMo hown hK hP 0 rfl rfl 10 (by decide) (hq _ wt_744) (fun _ h9 => h9) rfl dMo_take_28 ?_
        refine va_put (D := (dC, dI)) (ci := 8) (v := .long u.1.2.2.2.2.2.1) (ty := .long) (C := "StepCourtModel") (T := TMo) (N := 35) hx hb hq inMo tyMo tyMo_ok nmMo hown hK hP hD hS 0 rfl rfl 12 (by decide) (hq _ wt_746) (fun _ h9 => h9) rfl (by decide +kernel) rfl rfl (Nat.le_of_ble_eq_true rfl) dMo_take_31 (fun H locs hP hD hS => ?_)
        have hP : va_P (dC, dI) vwCl [(h0, ce_Mo h0_op h0_argument h0_balance h0_inbox h0_real h0_hand h0_payee h0_paid h0_drawn h0_challenger h0_low h0_high h0_agreed h0_disputed h0_posted h0_middle h0_deadline h0_running h0_node h0_side (u.1.1, u.1.2.1, u.1.2.2.1, u.1.2.2.2.1, u.1.2.2.2.2.1, u.1.2.2.2.2.2.1, u.1.2.2.2.2.2.1, u.1.2.2.2.2.2.2.2.1, u.1.2.2.2.2.2.2.2.2.1, u.1.2.2.2.2.2.2.2.2.2.1, u.1.2.2.2.2.2.2.2.2.2.2.1, u.1.2.2.2.2.2.2.2.2.2.2.2.1, u.1.2.2.2.2.2.2.2.2.2.2.2.2.1, u.1.2.2.2.2.2.2.2.2.2.2.2.2.2.1, u.1.2.2.2.2.2.2.2.2.2.2.2.2.2.2)), (h0_real, .inl (c0_real, 13, .inl u.2.1)), (h0_hand, .inl (c0_hand, 13, .inl x7))] H := hP
        have hD : va_D A [(h0, ce_Mo h0_op h0_argument h0_balance h0_inbox h0_real h0_hand h0_payee h0_paid h0_drawn h0_challenger h0_low h0_high h0_agreed h0_disputed h0_posted h0_middle h0_deadline h0_running h0_node h0_side (u.1.1, u.1.2.1, u.1.2.2.1, u.1.2.2.2.1, u.1.2.2.2.2.1, u.1.2.2.2.2.2.1, u.1.2.2.2.2.2.1, u.1.2.2.2.2.2.2.2.1, u.1.2.2.2.2.2.2.2.2.1, u.1.2.2.2.2.2.2.2.2.2.1, u.1.2.2.2.2.2.2.2.2.2.2.1, u.1.2.2.2.2.2.2.2.2.2.2.2.1, u.1.2.2.2.2.2.2.2.2.2.2.2.2.1, u.1.2.2.2.2.2.2.2.2.2.2.2.2.2.1, u.1.2.2.2.2.2.2.2.2.2.2.2.2.2.2)), (h0_real, .inl (c0_real, 13, .inl u.2.1)), (h0_hand, .inl (c0_hand, 13, .inl x7))] := hD
        have hP9 := hP.sub (ws' := [(h0, ce_Mo h0_op h0_argument h0_balance h0_inbox h0_real h0_hand h0_payee h0_paid h0_drawn h0_challenger h0_low h0_high h0_agreed h0_disputed h0_posted h0_middle h0_deadline h0_running h0_node h0_side (u.1.1, u.1.2.1, u.1.2.2.1, u.1.2.2.2.1, u.1.2.2.2.2.1, u.1.2.2.2.2.2.1, u.1.2.2.2.2.2.1, u.1.2.2.2.2.2.2.2.1, u.1.2.2.2.2.2.2.2.2.1, u.1.2.2.2.2.2.2.2.2.2.1, u.1.2.2.2.2.2.2.2.2.2.2.1, u.1.2.2.2.2.2.2.2.2.2.2.2.1, u.1.2.2.2.2.2.2.2.2.2.2.2.2.1, u.1.2.2.2.2.2.2.2.2.2.2.2.2.2.1, u.1.2.2.2.2.2.2.2.2.2.2.2.2.2.2)), (h0_real, .inl (c0_real, 13, .inl u.2.1)), (h0_hand, .inl (c0_hand, 13, .inl x7))]) [0, 1, 2] rfl
        have hD9 := hD.sub (ws' := [(h0, ce_Mo h0_op h0_argument h0_balance h0_inbox h0_real h0_hand h0_payee h0_paid h0_drawn h0_challenger h0_low h0_high h0_agreed h0_disputed h0_posted h0_middle h0_deadline h0_running h0_node h0_side (u.1.1, u.1.2.1, u.1.2.2.1, u.1.2.2.2.1, u.1.2.2.2.2.1, u.1.2.2.2.2.2.1, u.1.2.2.2.2.2.1, u.1.2.2.2.2.2.2.2.1, u.1.2.2.2.2.2.2.2.2.1, u.1.2.2.2.2.2.2.2.2.2.1, u.1.2.2.2.2.2.2.2.2.2.2.1, u.1.2.2.2.2.2.2.2.2.2.2.2.1, u.1.2.2.2.2.2.2.2.2.2.2.2.2.1, u.1.2.2.2.2.2.2.2.2.2.2.2.2.2.1, u.1.2.2.2.2.2.2.2.2.2.2.2.2.2.2)), (h0_real, .inl (c0_real, 13, .inl u.2.1)), (h0_hand, .inl (c0_hand, 13, .inl x7))]) [0, 1, 2] (by decide) rfl
        have hK9 := hK.sub (tys' := [(c0_real, .int), (c0_hand, .int)]) [0, 1] rfl
        exact W.vret hx hb hr (fun t ht hW => ⟨⟨((u.1.1, u.1.2.1, u.1.2.2.1, u.1.2.2.2.1, u.1.2.2.2.2.1, u.1.2.2.2.2.2.1, u.1.2.2.2.2.2.1, u.1.2.2.2.2.2.2.2.1, u.1.2.2.2.2.2.2.2.2.1, u.1.2.2.2.2.2.2.2.2.2.1, u.1.2.2.2.2.2.2.2.2.2.2.1, u.1.2.2.2.2.2.2.2.2.2.2.2.1, u.1.2.2.2.2.2.2.2.2.2.2.2.2.1, u.1.2.2.2.2.2.2.2.2.2.2.2.2.2.1, u.1.2.2.2.2.2.2.2.2.2.2.2.2.2.2), u.2.1, x7), rfl, hw, by rw [ht]; exact hP9, va_K.moved hW.alike hK9, hD9⟩, hS.F ht⟩) hS.2.2 dMo_take_34
      · have hw := hw.2 cc8
        refine lv_aload_n hx hb dMo_take_8 rfl (lv_at hl 1 rfl) ?_
        refine va_get (D := (dC, dI)) (ci := 8) (v := .ref h0_hand) (C := "StepCourtModel") (T := TMo) (N := 35) hx hb hq inMo hown hK hP 0 rfl rfl 11 (by decide) (hq _ wt_745) (fun _ h9 => h9) rfl dMo_take_9 ?_
        refine lv_iload_n hx hb dMo_take_12 rfl (lv_at hl 0 rfl) ?_
        refine lv_aload_n hx hb dMo_take_13 rfl (lv_at hl 1 rfl) ?_
        refine va_get (D := (dC, dI)) (ci := 8) (v := .ref h0_real) (C := "StepCourtModel") (T := TMo) (N := 35) hx hb hq inMo hown hK hP 0 rfl rfl 9 (by decide) (hq _ wt_743) (fun _ h9 => h9) rfl dMo_take_14 ?_
        refine lv_iload_n hx hb dMo_take_17 rfl (lv_at hl 0 rfl) ?_
        obtain ⟨hh9, hw⟩ := hw
        refine va_iald hx hb hK hP 1 0 rfl rfl hh9 dMo_take_18 ?_
        refine lv_topi (fun f10 ef10 => ?_)
        have hw := hw f10 ef10
        obtain ⟨hh11, hw⟩ := hw
        refine va_iast hx hb hK hP hD hS 2 1 rfl rfl hh11 dMo_take_19 (fun H locs hP hD hS => ?_)
        have hP : va_P (dC, dI) vwCl [(h0, ce_Mo h0_op h0_argument h0_balance h0_inbox h0_real h0_hand h0_payee h0_paid h0_drawn h0_challenger h0_low h0_high h0_agreed h0_disputed h0_posted h0_middle h0_deadline h0_running h0_node h0_side u.1), (h0_real, .inl (c0_real, 13, .inl u.2.1)), (h0_hand, .inl (c0_hand, 13, .inl (upd x7 v6.toNatClampNeg f10)))] H := hP
        have hD : va_D A [(h0, ce_Mo h0_op h0_argument h0_balance h0_inbox h0_real h0_hand h0_payee h0_paid h0_drawn h0_challenger h0_low h0_high h0_agreed h0_disputed h0_posted h0_middle h0_deadline h0_running h0_node h0_side u.1), (h0_real, .inl (c0_real, 13, .inl u.2.1)), (h0_hand, .inl (c0_hand, 13, .inl (upd x7 v6.toNatClampNeg f10)))] := hD
        refine lv_iinc (v := (v6 + 1)) (lv' := [(1, .int (v6 + 1)), (0, .ref h0)]) hx hb dMo_take_20 hl (k := 0) rfl (by rfl) (by decide) rfl (fun ls hl => ?_)
        refine lv_goto (tgt := 2) hx hb dMo_take_23 (by decide) ?_
        exact ih2 (v6 + 1) (upd x7 v6.toNatClampNeg f10) _ _ ls hw hP hD hS (lv_sub hl [0, 1] rfl)
  obtain ⟨n5, hw⟩ := hw
  exact hlp2 n5 0 u.2.2 _ _ ls hw hP hD hS (lv_sub hl [0, 1] rfl)
abbrev ww_Mo_tree (h0 h0_hand h0_node h0_op h0_argument h0_balance h0_inbox h0_real h0_payee h0_paid h0_drawn h0_challenger h0_low h0_high h0_agreed h0_disputed h0_posted h0_middle h0_deadline h0_running h0_side : Nat) (c0_hand c0_node : ClassId) (u : ct_Mo × (Nat → Int32) × (Nat → Int64)) : va_W := [(h0, ce_Mo h0_op h0_argument h0_balance h0_inbox h0_real h0_hand h0_payee h0_paid h0_drawn h0_challenger h0_low h0_high h0_agreed h0_disputed h0_posted h0_middle h0_deadline h0_running h0_node h0_side u.1), (h0_hand, .inl (c0_hand, 13, .inl u.2.1)), (h0_node, .inl (c0_node, 16, .inr (.inl u.2.2)))]
def wl_Mo_tree_39 (post : (ct_Mo × (Nat → Int32) × (Nat → Int64)) → Prop) (u : ct_Mo × (Nat → Int32) × (Nat → Int64)) : Nat → (Int32) → (Nat → Int64) → Prop
  | 0, _, _ => False
  | n16 + 1, v17, x18 => ((v17 < 1 → (post (u.1, u.2.1, x18))) ∧ (¬ v17 < 1 → (vp_in (2 * v17) 16 ∧ (vp_in ((2 * v17) + 1) 16 ∧ (wp_Mo_pair (fun r22 u23 => (vp_in v17 16 ∧ (wl_Mo_tree_39 post u n16 (v17 + (-1)) (vp_updL x18 v17.toNatClampNeg r22)))) () (x18 (2 * v17).toNatClampNeg) (x18 ((2 * v17) + 1).toNatClampNeg) )))))
def wl_Mo_tree_2 (post : (ct_Mo × (Nat → Int32) × (Nat → Int64)) → Prop) (u : ct_Mo × (Nat → Int32) × (Nat → Int64)) : Nat → (Int32) → (Nat → Int64) → Prop
  | 0, _, _ => False
  | n6 + 1, v7, x8 => ((8 ≤ v7 → (∃ n16 : Nat, wl_Mo_tree_39 post u n16 7 x8)) ∧ (¬ 8 ≤ v7 → (vp_in (5 + v7) 13 ∧ (wp_Mo_mix (fun r26 u27 => (vp_in (8 + v7) 16 ∧ (wl_Mo_tree_2 post u n6 (v7 + 1) (vp_updL x8 (8 + v7).toNatClampNeg r26)))) () 1 ((u.2.1 (5 + v7).toNatClampNeg).toInt64) ))))
def wp_Mo_tree (post : (ct_Mo × (Nat → Int32) × (Nat → Int64)) → Prop) (u : ct_Mo × (Nat → Int32) × (Nat → Int64)) : Prop := ∃ n6 : Nat, wl_Mo_tree_2 post u n6 0 u.2.2
set_option maxHeartbeats 4000000 in
set_option maxRecDepth 100000 in
theorem mt_Mo_tree (l : Launch) (dC : Nat → ClassId) (dI : Nat → Nat → Nat) (h0 h0_hand h0_node h0_op h0_argument h0_balance h0_inbox h0_real h0_payee h0_paid h0_drawn h0_challenger h0_low h0_high h0_agreed h0_disputed h0_posted h0_middle h0_deadline h0_running h0_side : Nat) (c0_hand c0_node : ClassId) (sz : Nat) (post : (ct_Mo × (Nat → Int32) × (Nat → Int64)) → Prop) (u : ct_Mo × (Nat → Int32) × (Nat → Int64)) (hw : wp_Mo_tree post u) : Met l yMo_tree wsMo_tree ({ frames := 2, cells := 0, slots := 0, locals := 48 }) (kp_P dC dI [.ref h0] sz (ww_Mo_tree h0 h0_hand h0_node h0_op h0_argument h0_balance h0_inbox h0_real h0_payee h0_paid h0_drawn h0_challenger h0_low h0_high h0_agreed h0_disputed h0_posted h0_middle h0_deadline h0_running h0_side c0_hand c0_node u) [(c0_hand, .int), (c0_node, .long)]) (va_Qv post (fun u9 => kp_B dC dI (va_A (ww_Mo_tree h0 h0_hand h0_node h0_op h0_argument h0_balance h0_inbox h0_real h0_payee h0_paid h0_drawn h0_challenger h0_low h0_high h0_agreed h0_disputed h0_posted h0_middle h0_deadline h0_running h0_side c0_hand c0_node u) sz) (ww_Mo_tree h0 h0_hand h0_node h0_op h0_argument h0_balance h0_inbox h0_real h0_payee h0_paid h0_drawn h0_challenger h0_low h0_high h0_agreed h0_disputed h0_posted h0_middle h0_deadline h0_running h0_side c0_hand c0_node u9) [(c0_hand, .int), (c0_node, .long)]) (va_A (ww_Mo_tree h0 h0_hand h0_node h0_op h0_argument h0_balance h0_inbox h0_real h0_payee h0_paid h0_drawn h0_challenger h0_low h0_high h0_agreed h0_disputed h0_posted h0_middle h0_deadline h0_running h0_side c0_hand c0_node u) sz)) 0 0 (va_A (ww_Mo_tree h0 h0_hand h0_node h0_op h0_argument h0_balance h0_inbox h0_real h0_payee h0_paid h0_drawn h0_challenger h0_low h0_high h0_agreed h0_disputed h0_posted h0_middle h0_deadline h0_running h0_side c0_hand c0_node u) sz) := by
  refine Met.ofW (cc := cMo_tree) (maxL := 2) (ret := none) (by decide) rfl ?_
  intro p e s m args below meth c s₁ B hml hv
  obtain ⟨rfl, hsz, hP, hK, hD0, hZ⟩ := hv
  have hx := B.exec
  have hb := B.bytes
  have hr := B.returns
  have hq : ∀ w ∈ wz, w.before _ s = true := fun w h => atoms_spec (ws := wsMo_tree) B.pre w (List.mem_cons_of_mem _ h)
  have hown : s.vm.findClass "StepCourtModel" = some m.cls := findClass_of_methodNamed B.named
  have hlocks := B.notSynchronized
  subst hsz
  have hD := hD0.self (sz := s.heap.size)
  generalize hAe : va_A (ww_Mo_tree h0 h0_hand h0_node h0_op h0_argument h0_balance h0_inbox h0_real h0_payee h0_paid h0_drawn h0_challenger h0_low h0_high h0_agreed h0_disputed h0_posted h0_middle h0_deadline h0_running h0_side c0_hand c0_node u) s.heap.size = A at hD ⊢
  have hA : ∀ q : Nat, s.heap.size ≤ q → A q := fun q h => by rw [← hAe]; exact Or.inr h
  have hS : va_S A s.heap s.heap [] := va_S.rf
  have hP : va_P (dC, dI) vwCl [(h0, ce_Mo h0_op h0_argument h0_balance h0_inbox h0_real h0_hand h0_payee h0_paid h0_drawn h0_challenger h0_low h0_high h0_agreed h0_disputed h0_posted h0_middle h0_deadline h0_running h0_node h0_side u.1), (h0_hand, .inl (c0_hand, 13, .inl u.2.1)), (h0_node, .inl (c0_node, 16, .inr (.inl u.2.2)))] s.heap := hP
  have hD : va_D A [(h0, ce_Mo h0_op h0_argument h0_balance h0_inbox h0_real h0_hand h0_payee h0_paid h0_drawn h0_challenger h0_low h0_high h0_agreed h0_disputed h0_posted h0_middle h0_deadline h0_running h0_node h0_side u.1), (h0_hand, .inl (c0_hand, 13, .inl u.2.1)), (h0_node, .inl (c0_node, 16, .inr (.inl u.2.2)))] := hD
  have hl := lv_entry ([.ref h0]) (n := 2) (Nat.le_of_ble_eq_true rfl)
  rw [lg_entry_eq]
  generalize (lg_sl ([.ref h0]) ++ List.replicate (2 - (lg_sl ([.ref h0])).length) Slot.unset).toArray = ls at hl ⊢
  have hl : lv_has ls 2 [(0, .ref h0)] := hl
  skip
  refine lv_iconst (v := 0) hx hb dMo_tree_0 (by decide) ?_
  refine lv_istore_n (lv' := [(1, .int 0), (0, .ref h0)]) hx hb dMo_tree_1 rfl hl (by decide) rfl (fun ls hl => ?_)
  have hlp2 : ∀ (n6 : Nat) (v7 : Int32) (x8 : Nat → Int64) (H : Heap) (locs : List Loc) (ls : Array Slot), wl_Mo_tree_2 post u n6 v7 x8 → va_P (dC, dI) vwCl [(h0, ce_Mo h0_op h0_argument h0_balance h0_inbox h0_real h0_hand h0_payee h0_paid h0_drawn h0_challenger h0_low h0_high h0_agreed h0_disputed h0_posted h0_middle h0_deadline h0_running h0_node h0_side u.1), (h0_hand, .inl (c0_hand, 13, .inl u.2.1)), (h0_node, .inl (c0_node, 16, .inr (.inl x8)))] H → va_D A [(h0, ce_Mo h0_op h0_argument h0_balance h0_inbox h0_real h0_hand h0_payee h0_paid h0_drawn h0_challenger h0_low h0_high h0_agreed h0_disputed h0_posted h0_middle h0_deadline h0_running h0_node h0_side u.1), (h0_hand, .inl (c0_hand, 13, .inl u.2.1)), (h0_node, .inl (c0_node, 16, .inr (.inl x8)))] → va_S A s.heap H locs → lv_has ls 2 [(1, .int v7), (0, .ref h0)] → W p l e (headSpec wsMo_tree ({ frames := 2, cells := 0, slots := 0, locals := 48 })).room s m ([.ref h0]).toArray below meth c H locs 0 0 (MQ below (va_Qv post (fun u9 => kp_B dC dI A (ww_Mo_tree h0 h0_hand h0_node h0_op h0_argument h0_balance h0_inbox h0_real h0_payee h0_paid h0_drawn h0_challenger h0_low h0_high h0_agreed h0_disputed h0_posted h0_middle h0_deadline h0_running h0_side c0_hand c0_node u9) [(c0_hand, .int), (c0_node, .long)]) A) ([.ref h0]).toArray s 0 0 A) (F0 m 2 ls []) := by
    intro n6
    induction n6 with
    | zero => intro v7 x8 H locs ls hw; exact False.elim hw
    | succ n6 ih2 =>
      intro v7 x8 H locs ls hw hP hD hS hl
      refine lv_iload_n hx hb dMo_tree_2 rfl (lv_at hl 0 rfl) ?_
      refine lv_bipush (v := 8) hx hb dMo_tree_3 (by decide) ?_
      refine lv_icmp_ge (tgt := 36) hx hb dMo_tree_5 (by decide) (fun cc9 => ?_) (fun cc9 => ?_)
      · have hw := hw.1 cc9
        refine lv_bipush (v := 7) hx hb dMo_tree_36 (by decide) ?_
        refine lv_istore_n (lv' := [(1, .int 7), (0, .ref h0)]) hx hb dMo_tree_38 rfl hl (by decide) rfl (fun ls hl => ?_)
        have hlp39 : ∀ (n16 : Nat) (v17 : Int32) (x18 : Nat → Int64) (H : Heap) (locs : List Loc) (ls : Array Slot), wl_Mo_tree_39 post u n16 v17 x18 → va_P (dC, dI) vwCl [(h0, ce_Mo h0_op h0_argument h0_balance h0_inbox h0_real h0_hand h0_payee h0_paid h0_drawn h0_challenger h0_low h0_high h0_agreed h0_disputed h0_posted h0_middle h0_deadline h0_running h0_node h0_side u.1), (h0_hand, .inl (c0_hand, 13, .inl u.2.1)), (h0_node, .inl (c0_node, 16, .inr (.inl x18)))] H → va_D A [(h0, ce_Mo h0_op h0_argument h0_balance h0_inbox h0_real h0_hand h0_payee h0_paid h0_drawn h0_challenger h0_low h0_high h0_agreed h0_disputed h0_posted h0_middle h0_deadline h0_running h0_node h0_side u.1), (h0_hand, .inl (c0_hand, 13, .inl u.2.1)), (h0_node, .inl (c0_node, 16, .inr (.inl x18)))] → va_S A s.heap H locs → lv_has ls 2 [(1, .int v17), (0, .ref h0)] → W p l e (headSpec wsMo_tree ({ frames := 2, cells := 0, slots := 0, locals := 48 })).room s m ([.ref h0]).toArray below meth c H locs 0 0 (MQ below (va_Qv post (fun u9 => kp_B dC dI A (ww_Mo_tree h0 h0_hand h0_node h0_op h0_argument h0_balance h0_inbox h0_real h0_payee h0_paid h0_drawn h0_challenger h0_low h0_high h0_agreed h0_disputed h0_posted h0_middle h0_deadline h0_running h0_side c0_hand c0_node u9) [(c0_hand, .int), (c0_node, .long)]) A) ([.ref h0]).toArray s 0 0 A) (F0 m 39 ls []) := by
          intro n16
          induction n16 with
          | zero => intro v17 x18 H locs ls hw; exact False.elim hw
          | succ n16 ih39 =>
            intro v17 x18 H locs ls hw hP hD hS hl
            refine lv_iload_n hx hb dMo_tree_39 rfl (lv_at hl 0 rfl) ?_
            refine lv_iconst (v := 1) hx hb dMo_tree_40 (by decide) ?_
            refine lv_icmp_lt (tgt := 77) hx hb dMo_tree_41 (by decide) (fun cc19 => ?_) (fun cc19 => ?_)
            · have hw := hw.1 cc19
              have hP9 := hP.sub (ws' := [(h0, ce_Mo h0_op h0_argument h0_balance h0_inbox h0_real h0_hand h0_payee h0_paid h0_drawn h0_challenger h0_low h0_high h0_agreed h0_disputed h0_posted h0_middle h0_deadline h0_running h0_node h0_side u.1), (h0_hand, .inl (c0_hand, 13, .inl u.2.1)), (h0_node, .inl (c0_node, 16, .inr (.inl x18)))]) [0, 1, 2] rfl
              have hD9 := hD.sub (ws' := [(h0, ce_Mo h0_op h0_argument h0_balance h0_inbox h0_real h0_hand h0_payee h0_paid h0_drawn h0_challenger h0_low h0_high h0_agreed h0_disputed h0_posted h0_middle h0_deadline h0_running h0_node h0_side u.1), (h0_hand, .inl (c0_hand, 13, .inl u.2.1)), (h0_node, .inl (c0_node, 16, .inr (.inl x18)))]) [0, 1, 2] (by decide) rfl
              have hK9 := hK.sub (tys' := [(c0_hand, .int), (c0_node, .long)]) [0, 1] rfl
              exact W.vret hx hb hr (fun t ht hW => ⟨⟨(u.1, u.2.1, x18), rfl, hw, by rw [ht]; exact hP9, va_K.moved hW.alike hK9, hD9⟩, hS.F ht⟩) hS.2.2 dMo_tree_77
            · have hw := hw.2 cc19
              refine lv_aload_n hx hb dMo_tree_44 rfl (lv_at hl 1 rfl) ?_
              refine va_get (D := (dC, dI)) (ci := 8) (v := .ref h0_node) (C := "StepCourtModel") (T := TMo) (N := 35) hx hb hq inMo hown hK hP 0 rfl rfl 33 (by decide) (hq _ wt_767) (fun _ h9 => h9) rfl dMo_tree_45 ?_
              refine lv_iload_n hx hb dMo_tree_48 rfl (lv_at hl 0 rfl) ?_
              refine lv_aload_n hx hb dMo_tree_49 rfl (lv_at hl 1 rfl) ?_
              refine va_get (D := (dC, dI)) (ci := 8) (v := .ref h0_node) (C := "StepCourtModel") (T := TMo) (N := 35) hx hb hq inMo hown hK hP 0 rfl rfl 33 (by decide) (hq _ wt_767) (fun _ h9 => h9) rfl dMo_tree_50 ?_
              refine lv_iconst (v := 2) hx hb dMo_tree_53 (by decide) ?_
              refine lv_iload_n hx hb dMo_tree_54 rfl (lv_at hl 0 rfl) ?_
              refine lv_imul hx hb dMo_tree_55 ?_
              obtain ⟨hh20, hw⟩ := hw
              refine va_lald hx hb hK hP 2 1 rfl rfl hh20 dMo_tree_56 ?_
              refine lv_aload_n hx hb dMo_tree_57 rfl (lv_at hl 1 rfl) ?_
              refine va_get (D := (dC, dI)) (ci := 8) (v := .ref h0_node) (C := "StepCourtModel") (T := TMo) (N := 35) hx hb hq inMo hown hK hP 0 rfl rfl 33 (by decide) (hq _ wt_767) (fun _ h9 => h9) rfl dMo_tree_58 ?_
              refine lv_iconst (v := 2) hx hb dMo_tree_61 (by decide) ?_
              refine lv_iload_n hx hb dMo_tree_62 rfl (lv_at hl 0 rfl) ?_
              refine lv_imul hx hb dMo_tree_63 ?_
              refine lv_iconst (v := 1) hx hb dMo_tree_64 (by decide) ?_
              refine lv_iadd hx hb dMo_tree_65 ?_
              obtain ⟨hh21, hw⟩ := hw
              refine va_lald hx hb hK hP 2 1 rfl rfl hh21 dMo_tree_66 ?_
              have hPc := hP.sub (ws' := []) [] rfl
              have hDc := hD.sub (ws' := []) [] (by decide) rfl
              have hKc := hK.sub (tys' := []) [] rfl
              have hFc := va_free (wc := []) hD hS hA [] rfl
              refine va_calll (va_runS (As := [.long (x18 (2 * v17).toNatClampNeg), .long (x18 ((2 * v17) + 1).toNatClampNeg)]) (rest := [.int v17, .ref h0_node]) ⟨hx, hb, hml, hown, hq⟩ (mt_Mo_pair l dC dI H.size _ () (x18 (2 * v17).toNatClampNeg) (x18 ((2 * v17) + 1).toNatClampNeg) hw) ⟨cq_B 2 hq wt_729 wt_727 wt_10 rfl rfl hd_Mo_pair ⟨Nat.le_of_ble_eq_true rfl, Nat.le_of_ble_eq_true rfl⟩, (hq _ wt_728)⟩ ⟨kp_bl, kp_at hPc hKc hDc hZ⟩ rfl rfl hl.1 rfl (lv_room (Nat.le_of_ble_eq_true rfl)) dMo_tree_67 ⟨(by decide), (by decide)⟩) hS (fun q _ h => hFc q h) hFc (fun r22 u23 t H1 locs ht hvm hw hB hz1 hk1 hS => ?_)
              obtain ⟨hP1, hK1, hD1⟩ := hB
              rw [ht] at hP1
              have hK1 := va_K.moved hvm.symm hK1
              obtain ⟨hP, hD⟩ := va_join (wr := [(h0, ce_Mo h0_op h0_argument h0_balance h0_inbox h0_real h0_hand h0_payee h0_paid h0_drawn h0_challenger h0_low h0_high h0_agreed h0_disputed h0_posted h0_middle h0_deadline h0_running h0_node h0_side u.1), (h0_hand, .inl (c0_hand, 13, .inl u.2.1)), (h0_node, .inl (c0_node, 16, .inr (.inl x18)))]) (w1 := []) hP hD [] [0, 1, 2] rfl rfl (by decide) (by decide) hk1 hFc hP1 hD1
              have hK := (hK.sub (tys' := [(c0_hand, .int), (c0_node, .long)]) [0, 1] rfl).app hK1
              generalize H1 = H at hP hS ⊢
              have hP : va_P (dC, dI) vwCl [(h0, ce_Mo h0_op h0_argument h0_balance h0_inbox h0_real h0_hand h0_payee h0_paid h0_drawn h0_challenger h0_low h0_high h0_agreed h0_disputed h0_posted h0_middle h0_deadline h0_running h0_node h0_side u.1), (h0_hand, .inl (c0_hand, 13, .inl u.2.1)), (h0_node, .inl (c0_node, 16, .inr (.inl x18)))] H := hP
              have hD : va_D A [(h0, ce_Mo h0_op h0_argument h0_balance h0_inbox h0_real h0_hand h0_payee h0_paid h0_drawn h0_challenger h0_low h0_high h0_agreed h0_disputed h0_posted h0_middle h0_deadline h0_running h0_node h0_side u.1), (h0_hand, .inl (c0_hand, 13, .inl u.2.1)), (h0_node, .inl (c0_node, 16, .inr (.inl x18)))] := hD
              have hK : va_K (dC, dI) vwCl [(c0_hand, .int), (c0_node, .long)] s := hK
              obtain ⟨hh24, hw⟩ := hw
              refine va_last hx hb hK hP hD hS 2 1 rfl rfl hh24 dMo_tree_70 (fun H locs hP hD hS => ?_)
              have hP : va_P (dC, dI) vwCl [(h0, ce_Mo h0_op h0_argument h0_balance h0_inbox h0_real h0_hand h0_payee h0_paid h0_drawn h0_challenger h0_low h0_high h0_agreed h0_disputed h0_posted h0_middle h0_deadline h0_running h0_node h0_side u.1), (h0_hand, .inl (c0_hand, 13, .inl u.2.1)), (h0_node, .inl (c0_node, 16, .inr (.inl (vp_updL x18 v17.toNatClampNeg r22))))] H := hP
              have hD : va_D A [(h0, ce_Mo h0_op h0_argument h0_balance h0_inbox h0_real h0_hand h0_payee h0_paid h0_drawn h0_challenger h0_low h0_high h0_agreed h0_disputed h0_posted h0_middle h0_deadline h0_running h0_node h0_side u.1), (h0_hand, .inl (c0_hand, 13, .inl u.2.1)), (h0_node, .inl (c0_node, 16, .inr (.inl (vp_updL x18 v17.toNatClampNeg r22))))] := hD
              refine lv_iinc (v := (v17 + (-1))) (lv' := [(1, .int (v17 + (-1))), (0, .ref h0)]) hx hb dMo_tree_71 hl (k := 0) rfl (by rfl) (by decide) rfl (fun ls hl => ?_)
              refine lv_goto (tgt := 39) hx hb dMo_tree_74 (by decide) ?_
              exact ih39 (v17 + (-1)) (vp_updL x18 v17.toNatClampNeg r22) _ _ ls hw hP hD hS (lv_sub hl [0, 1] rfl)
        obtain ⟨n16, hw⟩ := hw
        exact hlp39 n16 7 x8 _ _ ls hw hP hD hS (lv_sub hl [0, 1] rfl)
      · have hw := hw.2 cc9
        refine lv_aload_n hx hb dMo_tree_8 rfl (lv_at hl 1 rfl) ?_
        refine va_get (D := (dC, dI)) (ci := 8) (v := .ref h0_node) (C := "StepCourtModel") (T := TMo) (N := 35) hx hb hq inMo hown hK hP 0 rfl rfl 33 (by decide) (hq _ wt_767) (fun _ h9 => h9) rfl dMo_tree_9 ?_
        refine lv_bipush (v := 8) hx hb dMo_tree_12 (by decide) ?_
        refine lv_iload_n hx hb dMo_tree_14 rfl (lv_at hl 0 rfl) ?_
        refine lv_iadd hx hb dMo_tree_15 ?_
        refine lv_lconst (v := 1) hx hb dMo_tree_16 (by decide) ?_
        refine lv_aload_n hx hb dMo_tree_17 rfl (lv_at hl 1 rfl) ?_
        refine va_get (D := (dC, dI)) (ci := 8) (v := .ref h0_hand) (C := "StepCourtModel") (T := TMo) (N := 35) hx hb hq inMo hown hK hP 0 rfl rfl 11 (by decide) (hq _ wt_745) (fun _ h9 => h9) rfl dMo_tree_18 ?_
        refine lv_iconst (v := 5) hx hb dMo_tree_21 (by decide) ?_
        refine lv_iload_n hx hb dMo_tree_22 rfl (lv_at hl 0 rfl) ?_
        refine lv_iadd hx hb dMo_tree_23 ?_
        obtain ⟨hh25, hw⟩ := hw
        refine va_iald hx hb hK hP 1 0 rfl rfl hh25 dMo_tree_24 ?_
        refine lv_i2l (v := (u.2.1 (5 + v7).toNatClampNeg).toInt64) hx hb dMo_tree_25 rfl ?_
        have hPc := hP.sub (ws' := []) [] rfl
        have hDc := hD.sub (ws' := []) [] (by decide) rfl
        have hKc := hK.sub (tys' := []) [] rfl
        have hFc := va_free (wc := []) hD hS hA [] rfl
        refine va_calll (va_runS (As := [.long 1, .long ((u.2.1 (5 + v7).toNatClampNeg).toInt64)]) (rest := [.int (8 + v7), .ref h0_node]) ⟨hx, hb, hml, hown, hq⟩ (mt_Mo_mix l dC dI H.size _ () 1 ((u.2.1 (5 + v7).toNatClampNeg).toInt64) hw) ⟨cq_B 2 hq wt_723 wt_721 wt_10 rfl rfl hd_Mo_mix ⟨Nat.le_of_ble_eq_true rfl, Nat.le_of_ble_eq_true rfl⟩, (hq _ wt_722)⟩ ⟨kp_bl, kp_at hPc hKc hDc hZ⟩ rfl rfl hl.1 rfl (lv_room (Nat.le_of_ble_eq_true rfl)) dMo_tree_26 ⟨(by decide), (by decide)⟩) hS (fun q _ h => hFc q h) hFc (fun r26 u27 t H1 locs ht hvm hw hB hz1 hk1 hS => ?_)
        obtain ⟨hP1, hK1, hD1⟩ := hB
        rw [ht] at hP1
        have hK1 := va_K.moved hvm.symm hK1
        obtain ⟨hP, hD⟩ := va_join (wr := [(h0, ce_Mo h0_op h0_argument h0_balance h0_inbox h0_real h0_hand h0_payee h0_paid h0_drawn h0_challenger h0_low h0_high h0_agreed h0_disputed h0_posted h0_middle h0_deadline h0_running h0_node h0_side u.1), (h0_hand, .inl (c0_hand, 13, .inl u.2.1)), (h0_node, .inl (c0_node, 16, .inr (.inl x8)))]) (w1 := []) hP hD [] [0, 1, 2] rfl rfl (by decide) (by decide) hk1 hFc hP1 hD1
        have hK := (hK.sub (tys' := [(c0_hand, .int), (c0_node, .long)]) [0, 1] rfl).app hK1
        generalize H1 = H at hP hS ⊢
        have hP : va_P (dC, dI) vwCl [(h0, ce_Mo h0_op h0_argument h0_balance h0_inbox h0_real h0_hand h0_payee h0_paid h0_drawn h0_challenger h0_low h0_high h0_agreed h0_disputed h0_posted h0_middle h0_deadline h0_running h0_node h0_side u.1), (h0_hand, .inl (c0_hand, 13, .inl u.2.1)), (h0_node, .inl (c0_node, 16, .inr (.inl x8)))] H := hP
        have hD : va_D A [(h0, ce_Mo h0_op h0_argument h0_balance h0_inbox h0_real h0_hand h0_payee h0_paid h0_drawn h0_challenger h0_low h0_high h0_agreed h0_disputed h0_posted h0_middle h0_deadline h0_running h0_node h0_side u.1), (h0_hand, .inl (c0_hand, 13, .inl u.2.1)), (h0_node, .inl (c0_node, 16, .inr (.inl x8)))] := hD
        have hK : va_K (dC, dI) vwCl [(c0_hand, .int), (c0_node, .long)] s := hK
        obtain ⟨hh28, hw⟩ := hw
        refine va_last hx hb hK hP hD hS 2 1 rfl rfl hh28 dMo_tree_29 (fun H locs hP hD hS => ?_)
        have hP : va_P (dC, dI) vwCl [(h0, ce_Mo h0_op h0_argument h0_balance h0_inbox h0_real h0_hand h0_payee h0_paid h0_drawn h0_challenger h0_low h0_high h0_agreed h0_disputed h0_posted h0_middle h0_deadline h0_running h0_node h0_side u.1), (h0_hand, .inl (c0_hand, 13, .inl u.2.1)), (h0_node, .inl (c0_node, 16, .inr (.inl (vp_updL x8 (8 + v7).toNatClampNeg r26))))] H := hP
        have hD : va_D A [(h0, ce_Mo h0_op h0_argument h0_balance h0_inbox h0_real h0_hand h0_payee h0_paid h0_drawn h0_challenger h0_low h0_high h0_agreed h0_disputed h0_posted h0_middle h0_deadline h0_running h0_node h0_side u.1), (h0_hand, .inl (c0_hand, 13, .inl u.2.1)), (h0_node, .inl (c0_node, 16, .inr (.inl (vp_updL x8 (8 + v7).toNatClampNeg r26))))] := hD
        refine lv_iinc (v := (v7 + 1)) (lv' := [(1, .int (v7 + 1)), (0, .ref h0)]) hx hb dMo_tree_30 hl (k := 0) rfl (by rfl) (by decide) rfl (fun ls hl => ?_)
        refine lv_goto (tgt := 2) hx hb dMo_tree_33 (by decide) ?_
        exact ih2 (v7 + 1) (vp_updL x8 (8 + v7).toNatClampNeg r26) _ _ ls hw hP hD hS (lv_sub hl [0, 1] rfl)
  obtain ⟨n6, hw⟩ := hw
  exact hlp2 n6 0 u.2.2 _ _ ls hw hP hD hS (lv_sub hl [0, 1] rfl)
abbrev ww_Mo_commitment (h0 h0_hand h0_node h0_op h0_argument h0_balance h0_inbox h0_real h0_payee h0_paid h0_drawn h0_challenger h0_low h0_high h0_agreed h0_disputed h0_posted h0_middle h0_deadline h0_running h0_side : Nat) (c0_hand c0_node : ClassId) (u : ct_Mo × (Nat → Int32) × (Nat → Int64)) : va_W := [(h0, ce_Mo h0_op h0_argument h0_balance h0_inbox h0_real h0_hand h0_payee h0_paid h0_drawn h0_challenger h0_low h0_high h0_agreed h0_disputed h0_posted h0_middle h0_deadline h0_running h0_node h0_side u.1), (h0_hand, .inl (c0_hand, 13, .inl u.2.1)), (h0_node, .inl (c0_node, 16, .inr (.inl u.2.2)))]
def wp_Mo_commitment (post : Int64 → (ct_Mo × (Nat → Int32) × (Nat → Int64)) → Prop) (u : ct_Mo × (Nat → Int32) × (Nat → Int64)) : Prop := wp_Mo_tree (fun u2 => (wp_Mo_whole (fun r3 u4 => (post r3 (u2.1, u2.2.1, u2.2.2))) () ((u2.2.1 0).toInt64) ((u2.2.1 1).toInt64) ((u2.2.1 2).toInt64) ((u2.2.1 3).toInt64) ((u2.2.1 4).toInt64) u2.1.2.2.2.2.2.2.1 (u2.2.2 1) )) (u.1, u.2.1, u.2.2) 
set_option maxHeartbeats 4000000 in
set_option maxRecDepth 100000 in
theorem mt_Mo_commitment (l : Launch) (dC : Nat → ClassId) (dI : Nat → Nat → Nat) (h0 h0_hand h0_node h0_op h0_argument h0_balance h0_inbox h0_real h0_payee h0_paid h0_drawn h0_challenger h0_low h0_high h0_agreed h0_disputed h0_posted h0_middle h0_deadline h0_running h0_side : Nat) (c0_hand c0_node : ClassId) (sz : Nat) (post : Int64 → (ct_Mo × (Nat → Int32) × (Nat → Int64)) → Prop) (u : ct_Mo × (Nat → Int32) × (Nat → Int64)) (hw : wp_Mo_commitment post u) : Met l yMo_commitment wsMo_commitment ({ frames := 3, cells := 0, slots := 0, locals := 69 }) (kp_P dC dI [.ref h0] sz (ww_Mo_commitment h0 h0_hand h0_node h0_op h0_argument h0_balance h0_inbox h0_real h0_payee h0_paid h0_drawn h0_challenger h0_low h0_high h0_agreed h0_disputed h0_posted h0_middle h0_deadline h0_running h0_side c0_hand c0_node u) [(c0_hand, .int), (c0_node, .long)]) (va_Ql post (fun u9 => kp_B dC dI (va_A (ww_Mo_commitment h0 h0_hand h0_node h0_op h0_argument h0_balance h0_inbox h0_real h0_payee h0_paid h0_drawn h0_challenger h0_low h0_high h0_agreed h0_disputed h0_posted h0_middle h0_deadline h0_running h0_side c0_hand c0_node u) sz) (ww_Mo_commitment h0 h0_hand h0_node h0_op h0_argument h0_balance h0_inbox h0_real h0_payee h0_paid h0_drawn h0_challenger h0_low h0_high h0_agreed h0_disputed h0_posted h0_middle h0_deadline h0_running h0_side c0_hand c0_node u9) [(c0_hand, .int), (c0_node, .long)]) (va_A (ww_Mo_commitment h0 h0_hand h0_node h0_op h0_argument h0_balance h0_inbox h0_real h0_payee h0_paid h0_drawn h0_challenger h0_low h0_high h0_agreed h0_disputed h0_posted h0_middle h0_deadline h0_running h0_side c0_hand c0_node u) sz)) 0 0 (va_A (ww_Mo_commitment h0 h0_hand h0_node h0_op h0_argument h0_balance h0_inbox h0_real h0_payee h0_paid h0_drawn h0_challenger h0_low h0_high h0_agreed h0_disputed h0_posted h0_middle h0_deadline h0_running h0_side c0_hand c0_node u) sz) := by
  refine Met.ofW (cc := cMo_commitment) (maxL := 1) (ret := (some .long)) (by decide) rfl ?_
  intro p e s m args below meth c s₁ B hml hv
  obtain ⟨rfl, hsz, hP, hK, hD0, hZ⟩ := hv
  have hx := B.exec
  have hb := B.bytes
  have hr := B.returns
  have hq : ∀ w ∈ wz, w.before _ s = true := fun w h => atoms_spec (ws := wsMo_commitment) B.pre w (List.mem_cons_of_mem _ h)
  have hown : s.vm.findClass "StepCourtModel" = some m.cls := findClass_of_methodNamed B.named
  have hlocks := B.notSynchronized
  subst hsz
  have hD := hD0.self (sz := s.heap.size)
  generalize hAe : va_A (ww_Mo_commitment h0 h0_hand h0_node h0_op h0_argument h0_balance h0_inbox h0_real h0_payee h0_paid h0_drawn h0_challenger h0_low h0_high h0_agreed h0_disputed h0_posted h0_middle h0_deadline h0_running h0_side c0_hand c0_node u) s.heap.size = A at hD ⊢
  have hA : ∀ q : Nat, s.heap.size ≤ q → A q := fun q h => by rw [← hAe]; exact Or.inr h
  have hS : va_S A s.heap s.heap [] := va_S.rf
  have hP : va_P (dC, dI) vwCl [(h0, ce_Mo h0_op h0_argument h0_balance h0_inbox h0_real h0_hand h0_payee h0_paid h0_drawn h0_challenger h0_low h0_high h0_agreed h0_disputed h0_posted h0_middle h0_deadline h0_running h0_node h0_side u.1), (h0_hand, .inl (c0_hand, 13, .inl u.2.1)), (h0_node, .inl (c0_node, 16, .inr (.inl u.2.2)))] s.heap := hP
  have hD : va_D A [(h0, ce_Mo h0_op h0_argument h0_balance h0_inbox h0_real h0_hand h0_payee h0_paid h0_drawn h0_challenger h0_low h0_high h0_agreed h0_disputed h0_posted h0_middle h0_deadline h0_running h0_node h0_side u.1), (h0_hand, .inl (c0_hand, 13, .inl u.2.1)), (h0_node, .inl (c0_node, 16, .inr (.inl u.2.2)))] := hD
  have hl := lv_entry ([.ref h0]) (n := 1) (Nat.le_of_ble_eq_true rfl)
  rw [lg_entry_eq]
  generalize (lg_sl ([.ref h0]) ++ List.replicate (1 - (lg_sl ([.ref h0])).length) Slot.unset).toArray = ls at hl ⊢
  have hl : lv_has ls 1 [(0, .ref h0)] := hl
  skip
  refine lv_aload_n hx hb dMo_commitment_0 rfl (lv_at hl 0 rfl) ?_
  have hPc := hP.sub (ws' := [(h0, ce_Mo h0_op h0_argument h0_balance h0_inbox h0_real h0_hand h0_payee h0_paid h0_drawn h0_challenger h0_low h0_high h0_agreed h0_disputed h0_posted h0_middle h0_deadline h0_running h0_node h0_side u.1), (h0_hand, .inl (c0_hand, 13, .inl u.2.1)), (h0_node, .inl (c0_node, 16, .inr (.inl u.2.2)))]) [0, 1, 2] rfl
  have hDc := hD.sub (ws' := [(h0, ce_Mo h0_op h0_argument h0_balance h0_inbox h0_real h0_hand h0_payee h0_paid h0_drawn h0_challenger h0_low h0_high h0_agreed h0_disputed h0_posted h0_middle h0_deadline h0_running h0_node h0_side u.1), (h0_hand, .inl (c0_hand, 13, .inl u.2.1)), (h0_node, .inl (c0_node, 16, .inr (.inl u.2.2)))]) [0, 1, 2] (by decide) rfl
  have hKc := hK.sub (tys' := [(c0_hand, .int), (c0_node, .long)]) [0, 1] rfl
  have hFc := va_free (wc := [(h0, ce_Mo h0_op h0_argument h0_balance h0_inbox h0_real h0_hand h0_payee h0_paid h0_drawn h0_challenger h0_low h0_high h0_agreed h0_disputed h0_posted h0_middle h0_deadline h0_running h0_node h0_side u.1), (h0_hand, .inl (c0_hand, 13, .inl u.2.1)), (h0_node, .inl (c0_node, 16, .inr (.inl u.2.2)))]) hD hS hA [0, 1, 2] rfl
  refine va_callv (va_runV (As := []) (rest := []) ⟨hx, hb, hml, hown, hq⟩ (mt_Mo_tree l dC dI h0 h0_hand h0_node h0_op h0_argument h0_balance h0_inbox h0_real h0_payee h0_paid h0_drawn h0_challenger h0_low h0_high h0_agreed h0_disputed h0_posted h0_middle h0_deadline h0_running h0_side c0_hand c0_node s.heap.size _ (u.1, u.2.1, u.2.2) hw) ⟨cq_B 0 hq wt_720 wt_717 wt_10 rfl rfl hd_Mo_tree ⟨Nat.le_of_ble_eq_true rfl, Nat.le_of_ble_eq_true rfl⟩, (hq _ wt_719), (hq _ wv_23)⟩ ⟨kp_bl, va_recv hKc hPc (ci := 8) (q0 := 0) rfl rfl, kp_at hPc hKc hDc hZ⟩ rfl rfl hl.1 rfl (lv_room (Nat.le_of_ble_eq_true rfl)) dMo_commitment_1 ⟨(by decide), (by decide)⟩) hS (fun q _ h => hFc q h) hFc (fun u2 t H1 locs ht hvm hw hB hz1 hk1 hS => ?_)
  obtain ⟨hP1, hK1, hD1⟩ := hB
  rw [ht] at hP1
  have hK1 := va_K.moved hvm.symm hK1
  obtain ⟨hP, hD⟩ := va_join (wr := []) (w1 := [(h0, ce_Mo h0_op h0_argument h0_balance h0_inbox h0_real h0_hand h0_payee h0_paid h0_drawn h0_challenger h0_low h0_high h0_agreed h0_disputed h0_posted h0_middle h0_deadline h0_running h0_node h0_side u2.1), (h0_hand, .inl (c0_hand, 13, .inl u2.2.1)), (h0_node, .inl (c0_node, 16, .inr (.inl u2.2.2)))]) hP hD [0, 1, 2] [] rfl rfl (by decide) (by decide) hk1 hFc hP1 hD1
  have hK := (hK.sub (tys' := []) [] rfl).app hK1
  generalize H1 = H at hP hS ⊢
  have hP : va_P (dC, dI) vwCl [(h0, ce_Mo h0_op h0_argument h0_balance h0_inbox h0_real h0_hand h0_payee h0_paid h0_drawn h0_challenger h0_low h0_high h0_agreed h0_disputed h0_posted h0_middle h0_deadline h0_running h0_node h0_side u2.1), (h0_hand, .inl (c0_hand, 13, .inl u2.2.1)), (h0_node, .inl (c0_node, 16, .inr (.inl u2.2.2)))] H := hP
  have hD : va_D A [(h0, ce_Mo h0_op h0_argument h0_balance h0_inbox h0_real h0_hand h0_payee h0_paid h0_drawn h0_challenger h0_low h0_high h0_agreed h0_disputed h0_posted h0_middle h0_deadline h0_running h0_node h0_side u2.1), (h0_hand, .inl (c0_hand, 13, .inl u2.2.1)), (h0_node, .inl (c0_node, 16, .inr (.inl u2.2.2)))] := hD
  have hK : va_K (dC, dI) vwCl [(c0_hand, .int), (c0_node, .long)] s := hK
  refine lv_aload_n hx hb dMo_commitment_4 rfl (lv_at hl 0 rfl) ?_
  refine va_get (D := (dC, dI)) (ci := 8) (v := .ref h0_hand) (C := "StepCourtModel") (T := TMo) (N := 35) hx hb hq inMo hown hK hP 0 rfl rfl 11 (by decide) (hq _ wt_745) (fun _ h9 => h9) rfl dMo_commitment_5 ?_
  refine lv_iconst (v := 0) hx hb dMo_commitment_8 (by decide) ?_
  refine va_iald hx hb hK hP 1 0 rfl rfl (show ¬ ((0 : Int32) < 0 ∨ 13 ≤ (0 : Int32).toNatClampNeg) by decide) dMo_commitment_9 ?_
  refine W.eq (g2 := F0 m 10 ls [.int (u2.2.1 0)]) rfl ?_
  refine lv_i2l (v := (u2.2.1 0).toInt64) hx hb dMo_commitment_10 rfl ?_
  refine lv_aload_n hx hb dMo_commitment_11 rfl (lv_at hl 0 rfl) ?_
  refine va_get (D := (dC, dI)) (ci := 8) (v := .ref h0_hand) (C := "StepCourtModel") (T := TMo) (N := 35) hx hb hq inMo hown hK hP 0 rfl rfl 11 (by decide) (hq _ wt_745) (fun _ h9 => h9) rfl dMo_commitment_12 ?_
  refine lv_iconst (v := 1) hx hb dMo_commitment_15 (by decide) ?_
  refine va_iald hx hb hK hP 1 0 rfl rfl (show ¬ ((1 : Int32) < 0 ∨ 13 ≤ (1 : Int32).toNatClampNeg) by decide) dMo_commitment_16 ?_
  refine W.eq (g2 := F0 m 17 ls [.int (u2.2.1 1), .long ((u2.2.1 0).toInt64)]) rfl ?_
  refine lv_i2l (v := (u2.2.1 1).toInt64) hx hb dMo_commitment_17 rfl ?_
  refine lv_aload_n hx hb dMo_commitment_18 rfl (lv_at hl 0 rfl) ?_
  refine va_get (D := (dC, dI)) (ci := 8) (v := .ref h0_hand) (C := "StepCourtModel") (T := TMo) (N := 35) hx hb hq inMo hown hK hP 0 rfl rfl 11 (by decide) (hq _ wt_745) (fun _ h9 => h9) rfl dMo_commitment_19 ?_
  refine lv_iconst (v := 2) hx hb dMo_commitment_22 (by decide) ?_
  refine va_iald hx hb hK hP 1 0 rfl rfl (show ¬ ((2 : Int32) < 0 ∨ 13 ≤ (2 : Int32).toNatClampNeg) by decide) dMo_commitment_23 ?_
  refine W.eq (g2 := F0 m 24 ls [.int (u2.2.1 2), .long ((u2.2.1 1).toInt64), .long ((u2.2.1 0).toInt64)]) rfl ?_
  refine lv_i2l (v := (u2.2.1 2).toInt64) hx hb dMo_commitment_24 rfl ?_
  refine lv_aload_n hx hb dMo_commitment_25 rfl (lv_at hl 0 rfl) ?_
  refine va_get (D := (dC, dI)) (ci := 8) (v := .ref h0_hand) (C := "StepCourtModel") (T := TMo) (N := 35) hx hb hq inMo hown hK hP 0 rfl rfl 11 (by decide) (hq _ wt_745) (fun _ h9 => h9) rfl dMo_commitment_26 ?_
  refine lv_iconst (v := 3) hx hb dMo_commitment_29 (by decide) ?_
  refine va_iald hx hb hK hP 1 0 rfl rfl (show ¬ ((3 : Int32) < 0 ∨ 13 ≤ (3 : Int32).toNatClampNeg) by decide) dMo_commitment_30 ?_
  refine W.eq (g2 := F0 m 31 ls [.int (u2.2.1 3), .long ((u2.2.1 2).toInt64), .long ((u2.2.1 1).toInt64), .long ((u2.2.1 0).toInt64)]) rfl ?_
  refine lv_i2l (v := (u2.2.1 3).toInt64) hx hb dMo_commitment_31 rfl ?_
  refine lv_aload_n hx hb dMo_commitment_32 rfl (lv_at hl 0 rfl) ?_
  refine va_get (D := (dC, dI)) (ci := 8) (v := .ref h0_hand) (C := "StepCourtModel") (T := TMo) (N := 35) hx hb hq inMo hown hK hP 0 rfl rfl 11 (by decide) (hq _ wt_745) (fun _ h9 => h9) rfl dMo_commitment_33 ?_
  refine lv_iconst (v := 4) hx hb dMo_commitment_36 (by decide) ?_
  refine va_iald hx hb hK hP 1 0 rfl rfl (show ¬ ((4 : Int32) < 0 ∨ 13 ≤ (4 : Int32).toNatClampNeg) by decide) dMo_commitment_37 ?_
  refine W.eq (g2 := F0 m 38 ls [.int (u2.2.1 4), .long ((u2.2.1 3).toInt64), .long ((u2.2.1 2).toInt64), .long ((u2.2.1 1).toInt64), .long ((u2.2.1 0).toInt64)]) rfl ?_
  refine lv_i2l (v := (u2.2.1 4).toInt64) hx hb dMo_commitment_38 rfl ?_
  refine lv_aload_n hx hb dMo_commitment_39 rfl (lv_at hl 0 rfl) ?_
  refine va_get (D := (dC, dI)) (ci := 8) (v := .long u2.1.2.2.2.2.2.2.1) (C := "StepCourtModel") (T := TMo) (N := 35) hx hb hq inMo hown hK hP 0 rfl rfl 12 (by decide) (hq _ wt_746) (fun _ h9 => h9) rfl dMo_commitment_40 ?_
  refine lv_aload_n hx hb dMo_commitment_43 rfl (lv_at hl 0 rfl) ?_
  refine va_get (D := (dC, dI)) (ci := 8) (v := .ref h0_node) (C := "StepCourtModel") (T := TMo) (N := 35) hx hb hq inMo hown hK hP 0 rfl rfl 33 (by decide) (hq _ wt_767) (fun _ h9 => h9) rfl dMo_commitment_44 ?_
  refine lv_iconst (v := 1) hx hb dMo_commitment_47 (by decide) ?_
  refine va_lald hx hb hK hP 2 1 rfl rfl (show ¬ ((1 : Int32) < 0 ∨ 16 ≤ (1 : Int32).toNatClampNeg) by decide) dMo_commitment_48 ?_
  refine W.eq (g2 := F0 m 49 ls [.long (u2.2.2 1), .long u2.1.2.2.2.2.2.2.1, .long ((u2.2.1 4).toInt64), .long ((u2.2.1 3).toInt64), .long ((u2.2.1 2).toInt64), .long ((u2.2.1 1).toInt64), .long ((u2.2.1 0).toInt64)]) rfl ?_
  have hPc := hP.sub (ws' := []) [] rfl
  have hDc := hD.sub (ws' := []) [] (by decide) rfl
  have hKc := hK.sub (tys' := []) [] rfl
  have hFc := va_free (wc := []) hD hS hA [] rfl
  refine va_calll (va_runS (As := [.long ((u2.2.1 0).toInt64), .long ((u2.2.1 1).toInt64), .long ((u2.2.1 2).toInt64), .long ((u2.2.1 3).toInt64), .long ((u2.2.1 4).toInt64), .long u2.1.2.2.2.2.2.2.1, .long (u2.2.2 1)]) (rest := []) ⟨hx, hb, hml, hown, hq⟩ (mt_Mo_whole l dC dI H.size _ () ((u2.2.1 0).toInt64) ((u2.2.1 1).toInt64) ((u2.2.1 2).toInt64) ((u2.2.1 3).toInt64) ((u2.2.1 4).toInt64) u2.1.2.2.2.2.2.2.1 (u2.2.2 1) hw) ⟨cq_B 7 hq wt_733 wt_731 wt_10 rfl rfl hd_Mo_whole ⟨Nat.le_of_ble_eq_true rfl, Nat.le_of_ble_eq_true rfl⟩, (hq _ wt_732)⟩ ⟨kp_bl, kp_at hPc hKc hDc hZ⟩ rfl rfl hl.1 rfl (lv_room (Nat.le_of_ble_eq_true rfl)) dMo_commitment_49 ⟨(by decide), (by decide)⟩) hS (fun q _ h => hFc q h) hFc (fun r3 u4 t H1 locs ht hvm hw hB hz1 hk1 hS => ?_)
  obtain ⟨hP1, hK1, hD1⟩ := hB
  rw [ht] at hP1
  have hK1 := va_K.moved hvm.symm hK1
  obtain ⟨hP, hD⟩ := va_join (wr := [(h0, ce_Mo h0_op h0_argument h0_balance h0_inbox h0_real h0_hand h0_payee h0_paid h0_drawn h0_challenger h0_low h0_high h0_agreed h0_disputed h0_posted h0_middle h0_deadline h0_running h0_node h0_side u2.1), (h0_hand, .inl (c0_hand, 13, .inl u2.2.1)), (h0_node, .inl (c0_node, 16, .inr (.inl u2.2.2)))]) (w1 := []) hP hD [] [0, 1, 2] rfl rfl (by decide) (by decide) hk1 hFc hP1 hD1
  have hK := (hK.sub (tys' := [(c0_hand, .int), (c0_node, .long)]) [0, 1] rfl).app hK1
  generalize H1 = H at hP hS ⊢
  have hP : va_P (dC, dI) vwCl [(h0, ce_Mo h0_op h0_argument h0_balance h0_inbox h0_real h0_hand h0_payee h0_paid h0_drawn h0_challenger h0_low h0_high h0_agreed h0_disputed h0_posted h0_middle h0_deadline h0_running h0_node h0_side u2.1), (h0_hand, .inl (c0_hand, 13, .inl u2.2.1)), (h0_node, .inl (c0_node, 16, .inr (.inl u2.2.2)))] H := hP
  have hD : va_D A [(h0, ce_Mo h0_op h0_argument h0_balance h0_inbox h0_real h0_hand h0_payee h0_paid h0_drawn h0_challenger h0_low h0_high h0_agreed h0_disputed h0_posted h0_middle h0_deadline h0_running h0_node h0_side u2.1), (h0_hand, .inl (c0_hand, 13, .inl u2.2.1)), (h0_node, .inl (c0_node, 16, .inr (.inl u2.2.2)))] := hD
  have hK : va_K (dC, dI) vwCl [(c0_hand, .int), (c0_node, .long)] s := hK
  have hP9 := hP.sub (ws' := [(h0, ce_Mo h0_op h0_argument h0_balance h0_inbox h0_real h0_hand h0_payee h0_paid h0_drawn h0_challenger h0_low h0_high h0_agreed h0_disputed h0_posted h0_middle h0_deadline h0_running h0_node h0_side u2.1), (h0_hand, .inl (c0_hand, 13, .inl u2.2.1)), (h0_node, .inl (c0_node, 16, .inr (.inl u2.2.2)))]) [0, 1, 2] rfl
  have hD9 := hD.sub (ws' := [(h0, ce_Mo h0_op h0_argument h0_balance h0_inbox h0_real h0_hand h0_payee h0_paid h0_drawn h0_challenger h0_low h0_high h0_agreed h0_disputed h0_posted h0_middle h0_deadline h0_running h0_node h0_side u2.1), (h0_hand, .inl (c0_hand, 13, .inl u2.2.1)), (h0_node, .inl (c0_node, 16, .inr (.inl u2.2.2)))]) [0, 1, 2] (by decide) rfl
  have hK9 := hK.sub (tys' := [(c0_hand, .int), (c0_node, .long)]) [0, 1] rfl
  exact W.lret (v := r3) hx hb hr (fun t ht hW => ⟨⟨r3, (u2.1, u2.2.1, u2.2.2), rfl, hw, by rw [ht]; exact hP9, va_K.moved hW.alike hK9, hD9⟩, hS.F ht⟩) hS.2.2 dMo_commitment_52
abbrev ww_Mo_wordAt (h0 h0_inbox h0_op h0_argument h0_balance h0_real h0_hand h0_payee h0_paid h0_drawn h0_challenger h0_low h0_high h0_agreed h0_disputed h0_posted h0_middle h0_deadline h0_running h0_node h0_side : Nat) (c0_inbox : ClassId) (u : ct_Mo × (Nat → Int32)) : va_W := [(h0, ce_Mo h0_op h0_argument h0_balance h0_inbox h0_real h0_hand h0_payee h0_paid h0_drawn h0_challenger h0_low h0_high h0_agreed h0_disputed h0_posted h0_middle h0_deadline h0_running h0_node h0_side u.1), (h0_inbox, .inl (c0_inbox, 60, .inl u.2))]
def wp_Mo_wordAt (post : Int32 → (ct_Mo × (Nat → Int32)) → Prop) (u : ct_Mo × (Nat → Int32)) (k1 : Int32) : Prop := ((k1 < 0 → (post 0 (u.1, u.2))) ∧ (¬ k1 < 0 → (((u.1.2.2.2.1 ≤ k1 → (post 0 (u.1, u.2))) ∧ (¬ u.1.2.2.2.1 ≤ k1 → (vp_in k1 60 ∧ (post (u.2 k1.toNatClampNeg) (u.1, u.2))))))))
set_option maxHeartbeats 4000000 in
set_option maxRecDepth 100000 in
theorem mt_Mo_wordAt (l : Launch) (dC : Nat → ClassId) (dI : Nat → Nat → Nat) (h0 h0_inbox h0_op h0_argument h0_balance h0_real h0_hand h0_payee h0_paid h0_drawn h0_challenger h0_low h0_high h0_agreed h0_disputed h0_posted h0_middle h0_deadline h0_running h0_node h0_side : Nat) (c0_inbox : ClassId) (sz : Nat) (post : Int32 → (ct_Mo × (Nat → Int32)) → Prop) (u : ct_Mo × (Nat → Int32)) (k1 : Int32) (hw : wp_Mo_wordAt post u k1) : Met l yMo_wordAt wsMo_wordAt ({ frames := 0, cells := 0, slots := 0, locals := 0 }) (kp_P dC dI [.ref h0, .int k1] sz (ww_Mo_wordAt h0 h0_inbox h0_op h0_argument h0_balance h0_real h0_hand h0_payee h0_paid h0_drawn h0_challenger h0_low h0_high h0_agreed h0_disputed h0_posted h0_middle h0_deadline h0_running h0_node h0_side c0_inbox u) [(c0_inbox, .int)]) (va_Qi post (fun u9 => kp_B dC dI (va_A (ww_Mo_wordAt h0 h0_inbox h0_op h0_argument h0_balance h0_real h0_hand h0_payee h0_paid h0_drawn h0_challenger h0_low h0_high h0_agreed h0_disputed h0_posted h0_middle h0_deadline h0_running h0_node h0_side c0_inbox u) sz) (ww_Mo_wordAt h0 h0_inbox h0_op h0_argument h0_balance h0_real h0_hand h0_payee h0_paid h0_drawn h0_challenger h0_low h0_high h0_agreed h0_disputed h0_posted h0_middle h0_deadline h0_running h0_node h0_side c0_inbox u9) [(c0_inbox, .int)]) (va_A (ww_Mo_wordAt h0 h0_inbox h0_op h0_argument h0_balance h0_real h0_hand h0_payee h0_paid h0_drawn h0_challenger h0_low h0_high h0_agreed h0_disputed h0_posted h0_middle h0_deadline h0_running h0_node h0_side c0_inbox u) sz)) 0 0 (va_A (ww_Mo_wordAt h0 h0_inbox h0_op h0_argument h0_balance h0_real h0_hand h0_payee h0_paid h0_drawn h0_challenger h0_low h0_high h0_agreed h0_disputed h0_posted h0_middle h0_deadline h0_running h0_node h0_side c0_inbox u) sz) := by
  refine Met.ofW (cc := cMo_wordAt) (maxL := 2) (ret := (some .int)) (by decide) rfl ?_
  intro p e s m args below meth c s₁ B hml hv
  obtain ⟨rfl, hsz, hP, hK, hD0, hZ⟩ := hv
  have hx := B.exec
  have hb := B.bytes
  have hr := B.returns
  have hq : ∀ w ∈ wz, w.before _ s = true := fun w h => atoms_spec (ws := wsMo_wordAt) B.pre w (List.mem_cons_of_mem _ h)
  have hown : s.vm.findClass "StepCourtModel" = some m.cls := findClass_of_methodNamed B.named
  have hlocks := B.notSynchronized
  subst hsz
  have hD := hD0.self (sz := s.heap.size)
  generalize hAe : va_A (ww_Mo_wordAt h0 h0_inbox h0_op h0_argument h0_balance h0_real h0_hand h0_payee h0_paid h0_drawn h0_challenger h0_low h0_high h0_agreed h0_disputed h0_posted h0_middle h0_deadline h0_running h0_node h0_side c0_inbox u) s.heap.size = A at hD ⊢
  have hA : ∀ q : Nat, s.heap.size ≤ q → A q := fun q h => by rw [← hAe]; exact Or.inr h
  have hS : va_S A s.heap s.heap [] := va_S.rf
  have hP : va_P (dC, dI) vwCl [(h0, ce_Mo h0_op h0_argument h0_balance h0_inbox h0_real h0_hand h0_payee h0_paid h0_drawn h0_challenger h0_low h0_high h0_agreed h0_disputed h0_posted h0_middle h0_deadline h0_running h0_node h0_side u.1), (h0_inbox, .inl (c0_inbox, 60, .inl u.2))] s.heap := hP
  have hD : va_D A [(h0, ce_Mo h0_op h0_argument h0_balance h0_inbox h0_real h0_hand h0_payee h0_paid h0_drawn h0_challenger h0_low h0_high h0_agreed h0_disputed h0_posted h0_middle h0_deadline h0_running h0_node h0_side u.1), (h0_inbox, .inl (c0_inbox, 60, .inl u.2))] := hD
  have hl := lv_entry ([.ref h0, .int k1]) (n := 2) (Nat.le_of_ble_eq_true rfl)
  rw [lg_entry_eq]
  generalize (lg_sl ([.ref h0, .int k1]) ++ List.replicate (2 - (lg_sl ([.ref h0, .int k1])).length) Slot.unset).toArray = ls at hl ⊢
  have hl : lv_has ls 2 [(0, .ref h0), (1, .int k1)] := hl
  skip
  refine lv_iload_n hx hb dMo_wordAt_0 rfl (lv_at hl 1 rfl) ?_
  refine lv_if_lt (tgt := 21) hx hb dMo_wordAt_1 (by decide) (fun cc1 => ?_) (fun cc1 => ?_)
  · have hw := hw.1 cc1
    refine lv_iconst (v := 0) hx hb dMo_wordAt_21 (by decide) ?_
    have hP9 := hP.sub (ws' := [(h0, ce_Mo h0_op h0_argument h0_balance h0_inbox h0_real h0_hand h0_payee h0_paid h0_drawn h0_challenger h0_low h0_high h0_agreed h0_disputed h0_posted h0_middle h0_deadline h0_running h0_node h0_side u.1), (h0_inbox, .inl (c0_inbox, 60, .inl u.2))]) [0, 1] rfl
    have hD9 := hD.sub (ws' := [(h0, ce_Mo h0_op h0_argument h0_balance h0_inbox h0_real h0_hand h0_payee h0_paid h0_drawn h0_challenger h0_low h0_high h0_agreed h0_disputed h0_posted h0_middle h0_deadline h0_running h0_node h0_side u.1), (h0_inbox, .inl (c0_inbox, 60, .inl u.2))]) [0, 1] (by decide) rfl
    have hK9 := hK.sub (tys' := [(c0_inbox, .int)]) [0] rfl
    exact W.iret (v := 0) hx hb hr (fun t ht hW => ⟨⟨0, (u.1, u.2), rfl, hw, by rw [ht]; exact hP9, va_K.moved hW.alike hK9, hD9⟩, hS.F ht⟩) hS.2.2 dMo_wordAt_22
  · have hw := hw.2 cc1
    refine lv_iload_n hx hb dMo_wordAt_4 rfl (lv_at hl 1 rfl) ?_
    refine lv_aload_n hx hb dMo_wordAt_5 rfl (lv_at hl 0 rfl) ?_
    refine va_get (D := (dC, dI)) (ci := 8) (v := .int u.1.2.2.2.1) (C := "StepCourtModel") (T := TMo) (N := 35) hx hb hq inMo hown hK hP 0 rfl rfl 6 (by decide) (hq _ wt_740) (fun _ h9 => h9) rfl dMo_wordAt_6 ?_
    refine lv_icmp_ge (tgt := 21) hx hb dMo_wordAt_9 (by decide) (fun cc2 => ?_) (fun cc2 => ?_)
    · have hw := hw.1 cc2
      refine lv_iconst (v := 0) hx hb dMo_wordAt_21 (by decide) ?_
      have hP9 := hP.sub (ws' := [(h0, ce_Mo h0_op h0_argument h0_balance h0_inbox h0_real h0_hand h0_payee h0_paid h0_drawn h0_challenger h0_low h0_high h0_agreed h0_disputed h0_posted h0_middle h0_deadline h0_running h0_node h0_side u.1), (h0_inbox, .inl (c0_inbox, 60, .inl u.2))]) [0, 1] rfl
      have hD9 := hD.sub (ws' := [(h0, ce_Mo h0_op h0_argument h0_balance h0_inbox h0_real h0_hand h0_payee h0_paid h0_drawn h0_challenger h0_low h0_high h0_agreed h0_disputed h0_posted h0_middle h0_deadline h0_running h0_node h0_side u.1), (h0_inbox, .inl (c0_inbox, 60, .inl u.2))]) [0, 1] (by decide) rfl
      have hK9 := hK.sub (tys' := [(c0_inbox, .int)]) [0] rfl
      exact W.iret (v := 0) hx hb hr (fun t ht hW => ⟨⟨0, (u.1, u.2), rfl, hw, by rw [ht]; exact hP9, va_K.moved hW.alike hK9, hD9⟩, hS.F ht⟩) hS.2.2 dMo_wordAt_22
    · have hw := hw.2 cc2
      refine lv_aload_n hx hb dMo_wordAt_12 rfl (lv_at hl 0 rfl) ?_
      refine va_get (D := (dC, dI)) (ci := 8) (v := .ref h0_inbox) (C := "StepCourtModel") (T := TMo) (N := 35) hx hb hq inMo hown hK hP 0 rfl rfl 7 (by decide) (hq _ wt_741) (fun _ h9 => h9) rfl dMo_wordAt_13 ?_
      refine lv_iload_n hx hb dMo_wordAt_16 rfl (lv_at hl 1 rfl) ?_
      obtain ⟨hh3, hw⟩ := hw
      refine va_iald hx hb hK hP 1 0 rfl rfl hh3 dMo_wordAt_17 ?_
      refine lv_goto (tgt := 22) hx hb dMo_wordAt_18 (by decide) ?_
      have hP9 := hP.sub (ws' := [(h0, ce_Mo h0_op h0_argument h0_balance h0_inbox h0_real h0_hand h0_payee h0_paid h0_drawn h0_challenger h0_low h0_high h0_agreed h0_disputed h0_posted h0_middle h0_deadline h0_running h0_node h0_side u.1), (h0_inbox, .inl (c0_inbox, 60, .inl u.2))]) [0, 1] rfl
      have hD9 := hD.sub (ws' := [(h0, ce_Mo h0_op h0_argument h0_balance h0_inbox h0_real h0_hand h0_payee h0_paid h0_drawn h0_challenger h0_low h0_high h0_agreed h0_disputed h0_posted h0_middle h0_deadline h0_running h0_node h0_side u.1), (h0_inbox, .inl (c0_inbox, 60, .inl u.2))]) [0, 1] (by decide) rfl
      have hK9 := hK.sub (tys' := [(c0_inbox, .int)]) [0] rfl
      exact W.iret (v := (u.2 k1.toNatClampNeg)) hx hb hr (fun t ht hW => ⟨⟨(u.2 k1.toNatClampNeg), (u.1, u.2), rfl, hw, by rw [ht]; exact hP9, va_K.moved hW.alike hK9, hD9⟩, hS.F ht⟩) hS.2.2 dMo_wordAt_22
