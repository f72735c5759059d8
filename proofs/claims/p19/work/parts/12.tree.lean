theorem dMa_growTree_0 : decode cMa_growTree 0 = .ok (.iconst 0, 1) := by decide +kernel
theorem dMa_growTree_1 : decode cMa_growTree 1 = .ok (.istore_n 1, 1) := by decide +kernel
theorem dMa_growTree_2 : decode cMa_growTree 2 = .ok (.iload_n 1, 1) := by decide +kernel
theorem dMa_growTree_3 : decode cMa_growTree 3 = .ok (.bipush 8, 2) := by decide +kernel
theorem dMa_growTree_5 : decode cMa_growTree 5 = .ok (.if_icmp .ge 27, 3) := by decide +kernel
theorem dMa_growTree_8 : decode cMa_growTree 8 = .ok (.aload_n 0, 1) := by decide +kernel
theorem dMa_growTree_9 : decode cMa_growTree 9 = .ok (.getfield 15, 3) := by decide +kernel
theorem dMa_growTree_12 : decode cMa_growTree 12 = .ok (.bipush 8, 2) := by decide +kernel
theorem dMa_growTree_14 : decode cMa_growTree 14 = .ok (.iload_n 1, 1) := by decide +kernel
theorem dMa_growTree_15 : decode cMa_growTree 15 = .ok (.iadd, 1) := by decide +kernel
theorem dMa_growTree_16 : decode cMa_growTree 16 = .ok (.aload_n 0, 1) := by decide +kernel
theorem dMa_growTree_17 : decode cMa_growTree 17 = .ok (.getfield 9, 3) := by decide +kernel
theorem dMa_growTree_20 : decode cMa_growTree 20 = .ok (.iload_n 1, 1) := by decide +kernel
theorem dMa_growTree_21 : decode cMa_growTree 21 = .ok (.iaload, 1) := by decide +kernel
theorem dMa_growTree_22 : decode cMa_growTree 22 = .ok (.invokestatic 85, 3) := by decide +kernel
theorem dMa_growTree_25 : decode cMa_growTree 25 = .ok (.lastore, 1) := by decide +kernel
theorem dMa_growTree_26 : decode cMa_growTree 26 = .ok (.iinc 1 1, 3) := by decide +kernel
theorem dMa_growTree_29 : decode cMa_growTree 29 = .ok (.goto (-27), 3) := by decide +kernel
theorem dMa_growTree_32 : decode cMa_growTree 32 = .ok (.bipush 7, 2) := by decide +kernel
theorem dMa_growTree_34 : decode cMa_growTree 34 = .ok (.istore_n 1, 1) := by decide +kernel
theorem dMa_growTree_35 : decode cMa_growTree 35 = .ok (.iload_n 1, 1) := by decide +kernel
theorem dMa_growTree_36 : decode cMa_growTree 36 = .ok (.iconst 1, 1) := by decide +kernel
theorem dMa_growTree_37 : decode cMa_growTree 37 = .ok (.if_icmp .lt 36, 3) := by decide +kernel
theorem dMa_growTree_40 : decode cMa_growTree 40 = .ok (.aload_n 0, 1) := by decide +kernel
theorem dMa_growTree_41 : decode cMa_growTree 41 = .ok (.getfield 15, 3) := by decide +kernel
theorem dMa_growTree_44 : decode cMa_growTree 44 = .ok (.iload_n 1, 1) := by decide +kernel
theorem dMa_growTree_45 : decode cMa_growTree 45 = .ok (.aload_n 0, 1) := by decide +kernel
theorem dMa_growTree_46 : decode cMa_growTree 46 = .ok (.getfield 15, 3) := by decide +kernel
theorem dMa_growTree_49 : decode cMa_growTree 49 = .ok (.iconst 2, 1) := by decide +kernel
theorem dMa_growTree_50 : decode cMa_growTree 50 = .ok (.iload_n 1, 1) := by decide +kernel
theorem dMa_growTree_51 : decode cMa_growTree 51 = .ok (.imul, 1) := by decide +kernel
theorem dMa_growTree_52 : decode cMa_growTree 52 = .ok (.laload, 1) := by decide +kernel
theorem dMa_growTree_53 : decode cMa_growTree 53 = .ok (.aload_n 0, 1) := by decide +kernel
theorem dMa_growTree_54 : decode cMa_growTree 54 = .ok (.getfield 15, 3) := by decide +kernel
theorem dMa_growTree_57 : decode cMa_growTree 57 = .ok (.iconst 2, 1) := by decide +kernel
theorem dMa_growTree_58 : decode cMa_growTree 58 = .ok (.iload_n 1, 1) := by decide +kernel
theorem dMa_growTree_59 : decode cMa_growTree 59 = .ok (.imul, 1) := by decide +kernel
theorem dMa_growTree_60 : decode cMa_growTree 60 = .ok (.iconst 1, 1) := by decide +kernel
theorem dMa_growTree_61 : decode cMa_growTree 61 = .ok (.iadd, 1) := by decide +kernel
theorem dMa_growTree_62 : decode cMa_growTree 62 = .ok (.laload, 1) := by decide +kernel
theorem dMa_growTree_63 : decode cMa_growTree 63 = .ok (.invokestatic 89, 3) := by decide +kernel
theorem dMa_growTree_66 : decode cMa_growTree 66 = .ok (.lastore, 1) := by decide +kernel
theorem dMa_growTree_67 : decode cMa_growTree 67 = .ok (.iinc 1 (-1), 3) := by decide +kernel
theorem dMa_growTree_70 : decode cMa_growTree 70 = .ok (.goto (-35), 3) := by decide +kernel
theorem dMa_growTree_73 : decode cMa_growTree 73 = .ok (.return_, 1) := by decide +kernel
theorem dMa_commitmentWith_0 : decode cMa_commitmentWith 0 = .ok (.lconst 0, 1) := by decide +kernel
theorem dMa_commitmentWith_1 : decode cMa_commitmentWith 1 = .ok (.aload_n 0, 1) := by decide +kernel
theorem dMa_commitmentWith_2 : decode cMa_commitmentWith 2 = .ok (.getfield 25, 3) := by decide +kernel
theorem dMa_commitmentWith_5 : decode cMa_commitmentWith 5 = .ok (.i2l, 1) := by decide +kernel
theorem dMa_commitmentWith_6 : decode cMa_commitmentWith 6 = .ok (.invokestatic 79, 3) := by decide +kernel
theorem dMa_commitmentWith_9 : decode cMa_commitmentWith 9 = .ok (.lstore_n 3, 1) := by decide +kernel
theorem dMa_commitmentWith_10 : decode cMa_commitmentWith 10 = .ok (.lload_n 3, 1) := by decide +kernel
theorem dMa_commitmentWith_11 : decode cMa_commitmentWith 11 = .ok (.aload_n 0, 1) := by decide +kernel
theorem dMa_commitmentWith_12 : decode cMa_commitmentWith 12 = .ok (.getfield 29, 3) := by decide +kernel
theorem dMa_commitmentWith_15 : decode cMa_commitmentWith 15 = .ok (.i2l, 1) := by decide +kernel
theorem dMa_commitmentWith_16 : decode cMa_commitmentWith 16 = .ok (.invokestatic 79, 3) := by decide +kernel
theorem dMa_commitmentWith_19 : decode cMa_commitmentWith 19 = .ok (.lstore_n 3, 1) := by decide +kernel
theorem dMa_commitmentWith_20 : decode cMa_commitmentWith 20 = .ok (.lload_n 3, 1) := by decide +kernel
theorem dMa_commitmentWith_21 : decode cMa_commitmentWith 21 = .ok (.aload_n 0, 1) := by decide +kernel
theorem dMa_commitmentWith_22 : decode cMa_commitmentWith 22 = .ok (.getfield 32, 3) := by decide +kernel
theorem dMa_commitmentWith_25 : decode cMa_commitmentWith 25 = .ok (.i2l, 1) := by decide +kernel
theorem dMa_commitmentWith_26 : decode cMa_commitmentWith 26 = .ok (.invokestatic 79, 3) := by decide +kernel
theorem dMa_commitmentWith_29 : decode cMa_commitmentWith 29 = .ok (.lstore_n 3, 1) := by decide +kernel
theorem dMa_commitmentWith_30 : decode cMa_commitmentWith 30 = .ok (.lload_n 3, 1) := by decide +kernel
theorem dMa_commitmentWith_31 : decode cMa_commitmentWith 31 = .ok (.aload_n 0, 1) := by decide +kernel
theorem dMa_commitmentWith_32 : decode cMa_commitmentWith 32 = .ok (.getfield 35, 3) := by decide +kernel
theorem dMa_commitmentWith_35 : decode cMa_commitmentWith 35 = .ok (.i2l, 1) := by decide +kernel
theorem dMa_commitmentWith_36 : decode cMa_commitmentWith 36 = .ok (.invokestatic 79, 3) := by decide +kernel
theorem dMa_commitmentWith_39 : decode cMa_commitmentWith 39 = .ok (.lstore_n 3, 1) := by decide +kernel
theorem dMa_commitmentWith_40 : decode cMa_commitmentWith 40 = .ok (.lload_n 3, 1) := by decide +kernel
theorem dMa_commitmentWith_41 : decode cMa_commitmentWith 41 = .ok (.aload_n 0, 1) := by decide +kernel
theorem dMa_commitmentWith_42 : decode cMa_commitmentWith 42 = .ok (.getfield 38, 3) := by decide +kernel
theorem dMa_commitmentWith_45 : decode cMa_commitmentWith 45 = .ok (.i2l, 1) := by decide +kernel
theorem dMa_commitmentWith_46 : decode cMa_commitmentWith 46 = .ok (.invokestatic 79, 3) := by decide +kernel
theorem dMa_commitmentWith_49 : decode cMa_commitmentWith 49 = .ok (.lstore_n 3, 1) := by decide +kernel
theorem dMa_commitmentWith_50 : decode cMa_commitmentWith 50 = .ok (.lload_n 3, 1) := by decide +kernel
theorem dMa_commitmentWith_51 : decode cMa_commitmentWith 51 = .ok (.aload_n 0, 1) := by decide +kernel
theorem dMa_commitmentWith_52 : decode cMa_commitmentWith 52 = .ok (.getfield 41, 3) := by decide +kernel
theorem dMa_commitmentWith_55 : decode cMa_commitmentWith 55 = .ok (.invokestatic 79, 3) := by decide +kernel
theorem dMa_commitmentWith_58 : decode cMa_commitmentWith 58 = .ok (.lstore_n 3, 1) := by decide +kernel
theorem dMa_commitmentWith_59 : decode cMa_commitmentWith 59 = .ok (.lload_n 3, 1) := by decide +kernel
theorem dMa_commitmentWith_60 : decode cMa_commitmentWith 60 = .ok (.lload_n 1, 1) := by decide +kernel
theorem dMa_commitmentWith_61 : decode cMa_commitmentWith 61 = .ok (.invokestatic 79, 3) := by decide +kernel
theorem dMa_commitmentWith_64 : decode cMa_commitmentWith 64 = .ok (.lreturn, 1) := by decide +kernel
theorem dMa_commitment_0 : decode cMa_commitment 0 = .ok (.aload_n 0, 1) := by decide +kernel
theorem dMa_commitment_1 : decode cMa_commitment 1 = .ok (.invokevirtual 92, 3) := by decide +kernel
theorem dMa_commitment_4 : decode cMa_commitment 4 = .ok (.aload_n 0, 1) := by decide +kernel
theorem dMa_commitment_5 : decode cMa_commitment 5 = .ok (.aload_n 0, 1) := by decide +kernel
theorem dMa_commitment_6 : decode cMa_commitment 6 = .ok (.getfield 15, 3) := by decide +kernel
theorem dMa_commitment_9 : decode cMa_commitment 9 = .ok (.iconst 1, 1) := by decide +kernel
theorem dMa_commitment_10 : decode cMa_commitment 10 = .ok (.laload, 1) := by decide +kernel
theorem dMa_commitment_11 : decode cMa_commitment 11 = .ok (.invokevirtual 95, 3) := by decide +kernel
theorem dMa_commitment_14 : decode cMa_commitment 14 = .ok (.lreturn, 1) := by decide +kernel
abbrev ww_Ma_growTree (h0 h0_cells h0_tree : Nat) (c0_cells c0_tree : ClassId) (u : ct_Ma × (Nat → Int32) × (Nat → Int64)) : va_W := [(h0, ce_Ma h0_cells h0_tree u.1), (h0_cells, .inl (c0_cells, 8, .inl u.2.1)), (h0_tree, .inl (c0_tree, 16, .inr (.inl u.2.2)))]
def wl_Ma_growTree_35 (post : (ct_Ma × (Nat → Int32) × (Nat → Int64)) → Prop) (u : ct_Ma × (Nat → Int32) × (Nat → Int64)) : Nat → (Int32) → (Nat → Int64) → Prop
  | 0, _, _ => False
  | n16 + 1, v17, x18 => ((v17 < 1 → (post (u.1, u.2.1, x18))) ∧ (¬ v17 < 1 → (vp_in (2 * v17) 16 ∧ (vp_in ((2 * v17) + 1) 16 ∧ (wp_Mi_mixPair (fun r22 u23 => (vp_in v17 16 ∧ (wl_Ma_growTree_35 post u n16 (v17 + (-1)) (vp_updL x18 v17.toNatClampNeg r22)))) () (x18 (2 * v17).toNatClampNeg) (x18 ((2 * v17) + 1).toNatClampNeg) )))))
def wl_Ma_growTree_2 (post : (ct_Ma × (Nat → Int32) × (Nat → Int64)) → Prop) (u : ct_Ma × (Nat → Int32) × (Nat → Int64)) : Nat → (Int32) → (Nat → Int64) → Prop
  | 0, _, _ => False
  | n6 + 1, v7, x8 => ((8 ≤ v7 → (∃ n16 : Nat, wl_Ma_growTree_35 post u n16 7 x8)) ∧ (¬ 8 ≤ v7 → (vp_in v7 8 ∧ (wp_Mi_mixLeaf (fun r26 u27 => (vp_in (8 + v7) 16 ∧ (wl_Ma_growTree_2 post u n6 (v7 + 1) (vp_updL x8 (8 + v7).toNatClampNeg r26)))) () (u.2.1 v7.toNatClampNeg) ))))
def wp_Ma_growTree (post : (ct_Ma × (Nat → Int32) × (Nat → Int64)) → Prop) (u : ct_Ma × (Nat → Int32) × (Nat → Int64)) : Prop := ∃ n6 : Nat, wl_Ma_growTree_2 post u n6 0 u.2.2
set_option maxHeartbeats 4000000 in
set_option maxRecDepth 100000 in
theorem mt_Ma_growTree (l : Launch) (dC : Nat → ClassId) (dI : Nat → Nat → Nat) (h0 h0_cells h0_tree : Nat) (c0_cells c0_tree : ClassId) (sz : Nat) (post : (ct_Ma × (Nat → Int32) × (Nat → Int64)) → Prop) (u : ct_Ma × (Nat → Int32) × (Nat → Int64)) (hw : wp_Ma_growTree post u) : Met l yMa_growTree wsMa_growTree ({ frames := 2, cells := 0, slots := 0, locals := 48 }) (kp_P dC dI [.ref h0] sz (ww_Ma_growTree h0 h0_cells h0_tree c0_cells c0_tree u) [(c0_cells, .int), (c0_tree, .long)]) (va_Qv post (fun u9 => kp_B dC dI (va_A (ww_Ma_growTree h0 h0_cells h0_tree c0_cells c0_tree u) sz) (ww_Ma_growTree h0 h0_cells h0_tree c0_cells c0_tree u9) [(c0_cells, .int), (c0_tree, .long)]) (va_A (ww_Ma_growTree h0 h0_cells h0_tree c0_cells c0_tree u) sz)) 0 0 (va_A (ww_Ma_growTree h0 h0_cells h0_tree c0_cells c0_tree u) sz) := by
  refine Met.ofW (cc := cMa_growTree) (maxL := 2) (ret := none) (by decide) rfl ?_
  intro p e s m args below meth c s₁ B hml hv
  obtain ⟨rfl, hsz, hP, hK, hD0, hZ⟩ := hv
  have hx := B.exec
  have hb := B.bytes
  have hr := B.returns
  have hq : ∀ w ∈ wz, w.before _ s = true := fun w h => atoms_spec (ws := wsMa_growTree) B.pre w (List.mem_cons_of_mem _ h)
  have hown : s.vm.findClass "StepCourt$Machine" = some m.cls := findClass_of_methodNamed B.named
  have hlocks := B.notSynchronized
  subst hsz
  have hD := hD0.self (sz := s.heap.size)
  generalize hAe : va_A (ww_Ma_growTree h0 h0_cells h0_tree c0_cells c0_tree u) s.heap.size = A at hD ⊢
  have hA : ∀ q : Nat, s.heap.size ≤ q → A q := fun q h => by rw [← hAe]; exact Or.inr h
  have hS : va_S A s.heap s.heap [] := va_S.rf
  have hP : va_P (dC, dI) vwCl [(h0, ce_Ma h0_cells h0_tree u.1), (h0_cells, .inl (c0_cells, 8, .inl u.2.1)), (h0_tree, .inl (c0_tree, 16, .inr (.inl u.2.2)))] s.heap := hP
  have hD : va_D A [(h0, ce_Ma h0_cells h0_tree u.1), (h0_cells, .inl (c0_cells, 8, .inl u.2.1)), (h0_tree, .inl (c0_tree, 16, .inr (.inl u.2.2)))] := hD
  have hl := lv_entry ([.ref h0]) (n := 2) (Nat.le_of_ble_eq_true rfl)
  rw [lg_entry_eq]
  generalize (lg_sl ([.ref h0]) ++ List.replicate (2 - (lg_sl ([.ref h0])).length) Slot.unset).toArray = ls at hl ⊢
  have hl : lv_has ls 2 [(0, .ref h0)] := hl
  skip
  refine lv_iconst (v := 0) hx hb dMa_growTree_0 (by decide) ?_
  refine lv_istore_n (lv' := [(1, .int 0), (0, .ref h0)]) hx hb dMa_growTree_1 rfl hl (by decide) rfl (fun ls hl => ?_)
  have hlp2 : ∀ (n6 : Nat) (v7 : Int32) (x8 : Nat → Int64) (H : Heap) (locs : List Loc) (ls : Array Slot), wl_Ma_growTree_2 post u n6 v7 x8 → va_P (dC, dI) vwCl [(h0, ce_Ma h0_cells h0_tree u.1), (h0_cells, .inl (c0_cells, 8, .inl u.2.1)), (h0_tree, .inl (c0_tree, 16, .inr (.inl x8)))] H → va_D A [(h0, ce_Ma h0_cells h0_tree u.1), (h0_cells, .inl (c0_cells, 8, .inl u.2.1)), (h0_tree, .inl (c0_tree, 16, .inr (.inl x8)))] → va_S A s.heap H locs → lv_has ls 2 [(1, .int v7), (0, .ref h0)] → W p l e (headSpec wsMa_growTree ({ frames := 2, cells := 0, slots := 0, locals := 48 })).room s m ([.ref h0]).toArray below meth c H locs 0 0 (MQ below (va_Qv post (fun u9 => kp_B dC dI A (ww_Ma_growTree h0 h0_cells h0_tree c0_cells c0_tree u9) [(c0_cells, .int), (c0_tree, .long)]) A) ([.ref h0]).toArray s 0 0 A) (F0 m 2 ls []) := by
    intro n6
    induction n6 with
    | zero => intro v7 x8 H locs ls hw; exact False.elim hw
    | succ n6 ih2 =>
      intro v7 x8 H locs ls hw hP hD hS hl
      refine lv_iload_n hx hb dMa_growTree_2 rfl (lv_at hl 0 rfl) ?_
      refine lv_bipush (v := 8) hx hb dMa_growTree_3 (by decide) ?_
      refine lv_icmp_ge (tgt := 32) hx hb dMa_growTree_5 (by decide) (fun cc9 => ?_) (fun cc9 => ?_)
      · have hw := hw.1 cc9
        refine lv_bipush (v := 7) hx hb dMa_growTree_32 (by decide) ?_
        refine lv_istore_n (lv' := [(1, .int 7), (0, .ref h0)]) hx hb dMa_growTree_34 rfl hl (by decide) rfl (fun ls hl => ?_)
        have hlp35 : ∀ (n16 : Nat) (v17 : Int32) (x18 : Nat → Int64) (H : Heap) (locs : List Loc) (ls : Array Slot), wl_Ma_growTree_35 post u n16 v17 x18 → va_P (dC, dI) vwCl [(h0, ce_Ma h0_cells h0_tree u.1), (h0_cells, .inl (c0_cells, 8, .inl u.2.1)), (h0_tree, .inl (c0_tree, 16, .inr (.inl x18)))] H → va_D A [(h0, ce_Ma h0_cells h0_tree u.1), (h0_cells, .inl (c0_cells, 8, .inl u.2.1)), (h0_tree, .inl (c0_tree, 16, .inr (.inl x18)))] → va_S A s.heap H locs → lv_has ls 2 [(1, .int v17), (0, .ref h0)] → W p l e (headSpec wsMa_growTree ({ frames := 2, cells := 0, slots := 0, locals := 48 })).room s m ([.ref h0]).toArray below meth c H locs 0 0 (MQ below (va_Qv post (fun u9 => kp_B dC dI A (ww_Ma_growTree h0 h0_cells h0_tree c0_cells c0_tree u9) [(c0_cells, .int), (c0_tree, .long)]) A) ([.ref h0]).toArray s 0 0 A) (F0 m 35 ls []) := by
          intro n16
          induction n16 with
          | zero => intro v17 x18 H locs ls hw; exact False.elim hw
          | succ n16 ih35 =>
            intro v17 x18 H locs ls hw hP hD hS hl
            refine lv_iload_n hx hb dMa_growTree_35 rfl (lv_at hl 0 rfl) ?_
            refine lv_iconst (v := 1) hx hb dMa_growTree_36 (by decide) ?_
            refine lv_icmp_lt (tgt := 73) hx hb dMa_growTree_37 (by decide) (fun cc19 => ?_) (fun cc19 => ?_)
            · have hw := hw.1 cc19
              have hP9 := hP.sub (ws' := [(h0, ce_Ma h0_cells h0_tree u.1), (h0_cells, .inl (c0_cells, 8, .inl u.2.1)), (h0_tree, .inl (c0_tree, 16, .inr (.inl x18)))]) [0, 1, 2] rfl
              have hD9 := hD.sub (ws' := [(h0, ce_Ma h0_cells h0_tree u.1), (h0_cells, .inl (c0_cells, 8, .inl u.2.1)), (h0_tree, .inl (c0_tree, 16, .inr (.inl x18)))]) [0, 1, 2] (by decide) rfl
              have hK9 := hK.sub (tys' := [(c0_cells, .int), (c0_tree, .long)]) [0, 1] rfl
              exact W.vret hx hb hr (fun t ht hW => ⟨⟨(u.1, u.2.1, x18), rfl, hw, by rw [ht]; exact hP9, va_K.moved hW.alike hK9, hD9⟩, hS.F ht⟩) hS.2.2 dMa_growTree_73
            · have hw := hw.2 cc19
              refine lv_aload_n hx hb dMa_growTree_40 rfl (lv_at hl 1 rfl) ?_
              refine va_get (D := (dC, dI)) (ci := 4) (v := .ref h0_tree) (C := "StepCourt$Machine") (T := TMa) (N := 8) hx hb hq inMa hown hK hP 0 rfl rfl 1 (by decide) (hq _ wt_67) (fun _ h9 => h9) rfl dMa_growTree_41 ?_
              refine lv_iload_n hx hb dMa_growTree_44 rfl (lv_at hl 0 rfl) ?_
              refine lv_aload_n hx hb dMa_growTree_45 rfl (lv_at hl 1 rfl) ?_
              refine va_get (D := (dC, dI)) (ci := 4) (v := .ref h0_tree) (C := "StepCourt$Machine") (T := TMa) (N := 8) hx hb hq inMa hown hK hP 0 rfl rfl 1 (by decide) (hq _ wt_67) (fun _ h9 => h9) rfl dMa_growTree_46 ?_
              refine lv_iconst (v := 2) hx hb dMa_growTree_49 (by decide) ?_
              refine lv_iload_n hx hb dMa_growTree_50 rfl (lv_at hl 0 rfl) ?_
              refine lv_imul hx hb dMa_growTree_51 ?_
              obtain ⟨hh20, hw⟩ := hw
              refine va_lald hx hb hK hP 2 1 rfl rfl hh20 dMa_growTree_52 ?_
              refine lv_aload_n hx hb dMa_growTree_53 rfl (lv_at hl 1 rfl) ?_
              refine va_get (D := (dC, dI)) (ci := 4) (v := .ref h0_tree) (C := "StepCourt$Machine") (T := TMa) (N := 8) hx hb hq inMa hown hK hP 0 rfl rfl 1 (by decide) (hq _ wt_67) (fun _ h9 => h9) rfl dMa_growTree_54 ?_
              refine lv_iconst (v := 2) hx hb dMa_growTree_57 (by decide) ?_
              refine lv_iload_n hx hb dMa_growTree_58 rfl (lv_at hl 0 rfl) ?_
              refine lv_imul hx hb dMa_growTree_59 ?_
              refine lv_iconst (v := 1) hx hb dMa_growTree_60 (by decide) ?_
              refine lv_iadd hx hb dMa_growTree_61 ?_
              obtain ⟨hh21, hw⟩ := hw
              refine va_lald hx hb hK hP 2 1 rfl rfl hh21 dMa_growTree_62 ?_
              have hPc := hP.sub (ws' := []) [] rfl
              have hDc := hD.sub (ws' := []) [] (by decide) rfl
              have hKc := hK.sub (tys' := []) [] rfl
              have hFc := va_free (wc := []) hD hS hA [] rfl
              refine va_calll (va_runS (As := [.long (x18 (2 * v17).toNatClampNeg), .long (x18 ((2 * v17) + 1).toNatClampNeg)]) (rest := [.int v17, .ref h0_tree]) ⟨hx, hb, hml, hown, hq⟩ (mt_Mi_mixPair l dC dI H.size _ () (x18 (2 * v17).toNatClampNeg) (x18 ((2 * v17) + 1).toNatClampNeg) hw) ⟨cq_B 2 hq wt_247 wt_245 wt_9 rfl rfl hd_Mi_mixPair ⟨Nat.le_of_ble_eq_true rfl, Nat.le_of_ble_eq_true rfl⟩, (hq _ wt_246)⟩ ⟨kp_bl, kp_at hPc hKc hDc hZ⟩ rfl rfl hl.1 rfl (lv_room (Nat.le_of_ble_eq_true rfl)) dMa_growTree_63 ⟨(by decide), (by decide)⟩) hS (fun q _ h => hFc q h) hFc (fun r22 u23 t H1 locs ht hvm hw hB hz1 hk1 hS => ?_)
              obtain ⟨hP1, hK1, hD1⟩ := hB
              rw [ht] at hP1
              have hK1 := va_K.moved hvm.symm hK1
              obtain ⟨hP, hD⟩ := va_join (wr := [(h0, ce_Ma h0_cells h0_tree u.1), (h0_cells, .inl (c0_cells, 8, .inl u.2.1)), (h0_tree, .inl (c0_tree, 16, .inr (.inl x18)))]) (w1 := []) hP hD [] [0, 1, 2] rfl rfl (by decide) (by decide) hk1 hFc hP1 hD1
              have hK := (hK.sub (tys' := [(c0_cells, .int), (c0_tree, .long)]) [0, 1] rfl).app hK1
              generalize H1 = H at hP hS ⊢
              have hP : va_P (dC, dI) vwCl [(h0, ce_Ma h0_cells h0_tree u.1), (h0_cells, .inl (c0_cells, 8, .inl u.2.1)), (h0_tree, .inl (c0_tree, 16, .inr (.inl x18)))] H := hP
              have hD : va_D A [(h0, ce_Ma h0_cells h0_tree u.1), (h0_cells, .inl (c0_cells, 8, .inl u.2.1)), (h0_tree, .inl (c0_tree, 16, .inr (.inl x18)))] := hD
              have hK : va_K (dC, dI) vwCl [(c0_cells, .int), (c0_tree, .long)] s := hK
              obtain ⟨hh24, hw⟩ := hw
              refine va_last hx hb hK hP hD hS 2 1 rfl rfl hh24 dMa_growTree_66 (fun H locs hP hD hS => ?_)
              have hP : va_P (dC, dI) vwCl [(h0, ce_Ma h0_cells h0_tree u.1), (h0_cells, .inl (c0_cells, 8, .inl u.2.1)), (h0_tree, .inl (c0_tree, 16, .inr (.inl (vp_updL x18 v17.toNatClampNeg r22))))] H := hP
              have hD : va_D A [(h0, ce_Ma h0_cells h0_tree u.1), (h0_cells, .inl (c0_cells, 8, .inl u.2.1)), (h0_tree, .inl (c0_tree, 16, .inr (.inl (vp_updL x18 v17.toNatClampNeg r22))))] := hD
              refine lv_iinc (v := (v17 + (-1))) (lv' := [(1, .int (v17 + (-1))), (0, .ref h0)]) hx hb dMa_growTree_67 hl (k := 0) rfl (by rfl) (by decide) rfl (fun ls hl => ?_)
              refine lv_goto (tgt := 35) hx hb dMa_growTree_70 (by decide) ?_
              exact ih35 (v17 + (-1)) (vp_updL x18 v17.toNatClampNeg r22) _ _ ls hw hP hD hS (lv_sub hl [0, 1] rfl)
        obtain ⟨n16, hw⟩ := hw
        exact hlp35 n16 7 x8 _ _ ls hw hP hD hS (lv_sub hl [0, 1] rfl)
      · have hw := hw.2 cc9
        refine lv_aload_n hx hb dMa_growTree_8 rfl (lv_at hl 1 rfl) ?_
        refine va_get (D := (dC, dI)) (ci := 4) (v := .ref h0_tree) (C := "StepCourt$Machine") (T := TMa) (N := 8) hx hb hq inMa hown hK hP 0 rfl rfl 1 (by decide) (hq _ wt_67) (fun _ h9 => h9) rfl dMa_growTree_9 ?_
        refine lv_bipush (v := 8) hx hb dMa_growTree_12 (by decide) ?_
        refine lv_iload_n hx hb dMa_growTree_14 rfl (lv_at hl 0 rfl) ?_
        refine lv_iadd hx hb dMa_growTree_15 ?_
        refine lv_aload_n hx hb dMa_growTree_16 rfl (lv_at hl 1 rfl) ?_
        refine va_get (D := (dC, dI)) (ci := 4) (v := .ref h0_cells) (C := "StepCourt$Machine") (T := TMa) (N := 8) hx hb hq inMa hown hK hP 0 rfl rfl 0 (by decide) (hq _ wt_65) (fun _ h9 => h9) rfl dMa_growTree_17 ?_
        refine lv_iload_n hx hb dMa_growTree_20 rfl (lv_at hl 0 rfl) ?_
        obtain ⟨hh25, hw⟩ := hw
        refine va_iald hx hb hK hP 1 0 rfl rfl hh25 dMa_growTree_21 ?_
        have hPc := hP.sub (ws' := []) [] rfl
        have hDc := hD.sub (ws' := []) [] (by decide) rfl
        have hKc := hK.sub (tys' := []) [] rfl
        have hFc := va_free (wc := []) hD hS hA [] rfl
        refine va_calll (va_runS (As := [.int (u.2.1 v7.toNatClampNeg)]) (rest := [.int (8 + v7), .ref h0_tree]) ⟨hx, hb, hml, hown, hq⟩ (mt_Mi_mixLeaf l dC dI H.size _ () (u.2.1 v7.toNatClampNeg) hw) ⟨cq_B 1 hq wt_238 wt_236 wt_9 rfl rfl hd_Mi_mixLeaf ⟨Nat.le_of_ble_eq_true rfl, Nat.le_of_ble_eq_true rfl⟩, (hq _ wt_237)⟩ ⟨kp_bl, kp_at hPc hKc hDc hZ⟩ rfl rfl hl.1 rfl (lv_room (Nat.le_of_ble_eq_true rfl)) dMa_growTree_22 ⟨(by decide), (by decide)⟩) hS (fun q _ h => hFc q h) hFc (fun r26 u27 t H1 locs ht hvm hw hB hz1 hk1 hS => ?_)
        obtain ⟨hP1, hK1, hD1⟩ := hB
        rw [ht] at hP1
        have hK1 := va_K.moved hvm.symm hK1
        obtain ⟨hP, hD⟩ := va_join (wr := [(h0, ce_Ma h0_cells h0_tree u.1), (h0_cells, .inl (c0_cells, 8, .inl u.2.1)), (h0_tree, .inl (c0_tree, 16, .inr (.inl x8)))]) (w1 := []) hP hD [] [0, 1, 2] rfl rfl (by decide) (by decide) hk1 hFc hP1 hD1
        have hK := (hK.sub (tys' := [(c0_cells, .int), (c0_tree, .long)]) [0, 1] rfl).app hK1
        generalize H1 = H at hP hS ⊢
        have hP : va_P (dC, dI) vwCl [(h0, ce_Ma h0_cells h0_tree u.1), (h0_cells, .inl (c0_cells, 8, .inl u.2.1)), (h0_tree, .inl (c0_tree, 16, .inr (.inl x8)))] H := hP
        have hD : va_D A [(h0, ce_Ma h0_cells h0_tree u.1), (h0_cells, .inl (c0_cells, 8, .inl u.2.1)), (h0_tree, .inl (c0_tree, 16, .inr (.inl x8)))] := hD
        have hK : va_K (dC, dI) vwCl [(c0_cells, .int), (c0_tree, .long)] s := hK
        obtain ⟨hh28, hw⟩ := hw
        refine va_last hx hb hK hP hD hS 2 1 rfl rfl hh28 dMa_growTree_25 (fun H locs hP hD hS => ?_)
        have hP : va_P (dC, dI) vwCl [(h0, ce_Ma h0_cells h0_tree u.1), (h0_cells, .inl (c0_cells, 8, .inl u.2.1)), (h0_tree, .inl (c0_tree, 16, .inr (.inl (vp_updL x8 (8 + v7).toNatClampNeg r26))))] H := hP
        have hD : va_D A [(h0, ce_Ma h0_cells h0_tree u.1), (h0_cells, .inl (c0_cells, 8, .inl u.2.1)), (h0_tree, .inl (c0_tree, 16, .inr (.inl (vp_updL x8 (8 + v7).toNatClampNeg r26))))] := hD
        refine lv_iinc (v := (v7 + 1)) (lv' := [(1, .int (v7 + 1)), (0, .ref h0)]) hx hb dMa_growTree_26 hl (k := 0) rfl (by rfl) (by decide) rfl (fun ls hl => ?_)
        refine lv_goto (tgt := 2) hx hb dMa_growTree_29 (by decide) ?_
        exact ih2 (v7 + 1) (vp_updL x8 (8 + v7).toNatClampNeg r26) _ _ ls hw hP hD hS (lv_sub hl [0, 1] rfl)
  obtain ⟨n6, hw⟩ := hw
  exact hlp2 n6 0 u.2.2 _ _ ls hw hP hD hS (lv_sub hl [0, 1] rfl)
abbrev ww_Ma_commitmentWith (h0 h0_cells h0_tree : Nat) (u : ct_Ma) : va_W := [(h0, ce_Ma h0_cells h0_tree u)]
def wp_Ma_commitmentWith (post : Int64 → ct_Ma → Prop) (u : ct_Ma) (k1 : Int64) : Prop := wp_Mi_mix (fun r1 u2 => (wp_Mi_mix (fun r3 u4 => (wp_Mi_mix (fun r5 u6 => (wp_Mi_mix (fun r7 u8 => (wp_Mi_mix (fun r9 u10 => (wp_Mi_mix (fun r11 u12 => (wp_Mi_mix (fun r13 u14 => (post r13 u)) () r11 k1 )) () r9 u.2.2.2.2.2 )) () r7 (u.2.2.2.2.1.toInt64) )) () r5 (u.2.2.2.1.toInt64) )) () r3 (u.2.2.1.toInt64) )) () r1 (u.2.1.toInt64) )) () 0 (u.1.toInt64) 
set_option maxHeartbeats 4000000 in
set_option maxRecDepth 100000 in
theorem mt_Ma_commitmentWith (l : Launch) (dC : Nat → ClassId) (dI : Nat → Nat → Nat) (h0 h0_cells h0_tree : Nat) (sz : Nat) (post : Int64 → ct_Ma → Prop) (u : ct_Ma) (k1 : Int64) (hw : wp_Ma_commitmentWith post u k1) : Met l yMa_commitmentWith wsMa_commitmentWith ({ frames := 1, cells := 0, slots := 0, locals := 25 }) (kp_P dC dI [.ref h0, .long k1] sz (ww_Ma_commitmentWith h0 h0_cells h0_tree u) []) (va_Ql post (fun u9 => kp_B dC dI (va_A (ww_Ma_commitmentWith h0 h0_cells h0_tree u) sz) (ww_Ma_commitmentWith h0 h0_cells h0_tree u9) []) (va_A (ww_Ma_commitmentWith h0 h0_cells h0_tree u) sz)) 0 0 (va_A (ww_Ma_commitmentWith h0 h0_cells h0_tree u) sz) := by
  refine Met.ofW (cc := cMa_commitmentWith) (maxL := 5) (ret := (some .long)) (by decide) rfl ?_
  intro p e s m args below meth c s₁ B hml hv
  obtain ⟨rfl, hsz, hP, hK, hD0, hZ⟩ := hv
  have hx := B.exec
  have hb := B.bytes
  have hr := B.returns
  have hq : ∀ w ∈ wz, w.before _ s = true := fun w h => atoms_spec (ws := wsMa_commitmentWith) B.pre w (List.mem_cons_of_mem _ h)
  have hown : s.vm.findClass "StepCourt$Machine" = some m.cls := findClass_of_methodNamed B.named
  have hlocks := B.notSynchronized
  subst hsz
  have hD := hD0.self (sz := s.heap.size)
  generalize hAe : va_A (ww_Ma_commitmentWith h0 h0_cells h0_tree u) s.heap.size = A at hD ⊢
  have hA : ∀ q : Nat, s.heap.size ≤ q → A q := fun q h => by rw [← hAe]; exact Or.inr h
  have hS : va_S A s.heap s.heap [] := va_S.rf
  have hP : va_P (dC, dI) vwCl [(h0, ce_Ma h0_cells h0_tree u)] s.heap := hP
  have hD : va_D A [(h0, ce_Ma h0_cells h0_tree u)] := hD
  have hl := lv_entry ([.ref h0, .long k1]) (n := 5) (Nat.le_of_ble_eq_true rfl)
  rw [lg_entry_eq]
  generalize (lg_sl ([.ref h0, .long k1]) ++ List.replicate (5 - (lg_sl ([.ref h0, .long k1])).length) Slot.unset).toArray = ls at hl ⊢
  have hl : lv_has ls 5 [(0, .ref h0), (1, .long k1)] := hl
  skip
  refine lv_lconst (v := 0) hx hb dMa_commitmentWith_0 (by decide) ?_
  refine lv_aload_n hx hb dMa_commitmentWith_1 rfl (lv_at hl 0 rfl) ?_
  refine va_get (D := (dC, dI)) (ci := 4) (v := .int u.1) (C := "StepCourt$Machine") (T := TMa) (N := 8) hx hb hq inMa hown hK hP 0 rfl rfl 2 (by decide) (hq _ wt_69) (fun _ h9 => h9) rfl dMa_commitmentWith_2 ?_
  refine lv_i2l (v := u.1.toInt64) hx hb dMa_commitmentWith_5 rfl ?_
  have hPc := hP.sub (ws' := []) [] rfl
  have hDc := hD.sub (ws' := []) [] (by decide) rfl
  have hKc := hK.sub (tys' := []) [] rfl
  have hFc := va_free (wc := []) hD hS hA [] rfl
  refine va_calll (va_runS (As := [.long 0, .long (u.1.toInt64)]) (rest := []) ⟨hx, hb, hml, hown, hq⟩ (mt_Mi_mix l dC dI s.heap.size _ () 0 (u.1.toInt64) hw) ⟨cq_B 2 hq wt_241 wt_253 wt_9 rfl rfl hd_Mi_mix ⟨Nat.le_of_ble_eq_true rfl, Nat.le_of_ble_eq_true rfl⟩, (hq _ wt_240)⟩ ⟨kp_bl, kp_at hPc hKc hDc hZ⟩ rfl rfl hl.1 rfl (lv_room (Nat.le_of_ble_eq_true rfl)) dMa_commitmentWith_6 ⟨(by decide), (by decide)⟩) hS (fun q _ h => hFc q h) hFc (fun r1 u2 t H1 locs ht hvm hw hB hz1 hk1 hS => ?_)
  obtain ⟨hP1, hK1, hD1⟩ := hB
  rw [ht] at hP1
  have hK1 := va_K.moved hvm.symm hK1
  obtain ⟨hP, hD⟩ := va_join (wr := [(h0, ce_Ma h0_cells h0_tree u)]) (w1 := []) hP hD [] [0] rfl rfl (by decide) (by decide) hk1 hFc hP1 hD1
  have hK := (hK.sub (tys' := []) [] rfl).app hK1
  generalize H1 = H at hP hS ⊢
  have hP : va_P (dC, dI) vwCl [(h0, ce_Ma h0_cells h0_tree u)] H := hP
  have hD : va_D A [(h0, ce_Ma h0_cells h0_tree u)] := hD
  have hK : va_K (dC, dI) vwCl [] s := hK
  refine lv_lstore_n (lv' := [(3, .long r1), (0, .ref h0), (1, .long k1)]) hx hb dMa_commitmentWith_9 rfl hl (by decide) rfl (fun ls hl => ?_)
  refine lv_lload_n hx hb dMa_commitmentWith_10 rfl (lv_at hl 0 rfl) ?_
  refine lv_aload_n hx hb dMa_commitmentWith_11 rfl (lv_at hl 1 rfl) ?_
  refine va_get (D := (dC, dI)) (ci := 4) (v := .int u.2.1) (C := "StepCourt$Machine") (T := TMa) (N := 8) hx hb hq inMa hown hK hP 0 rfl rfl 3 (by decide) (hq _ wt_72) (fun _ h9 => h9) rfl dMa_commitmentWith_12 ?_
  refine lv_i2l (v := u.2.1.toInt64) hx hb dMa_commitmentWith_15 rfl ?_
  have hPc := hP.sub (ws' := []) [] rfl
  have hDc := hD.sub (ws' := []) [] (by decide) rfl
  have hKc := hK.sub (tys' := []) [] rfl
  have hFc := va_free (wc := []) hD hS hA [] rfl
  refine va_calll (va_runS (As := [.long r1, .long (u.2.1.toInt64)]) (rest := []) ⟨hx, hb, hml, hown, hq⟩ (mt_Mi_mix l dC dI H.size _ () r1 (u.2.1.toInt64) hw) ⟨cq_B 2 hq wt_241 wt_253 wt_9 rfl rfl hd_Mi_mix ⟨Nat.le_of_ble_eq_true rfl, Nat.le_of_ble_eq_true rfl⟩, (hq _ wt_240)⟩ ⟨kp_bl, kp_at hPc hKc hDc hZ⟩ rfl rfl hl.1 rfl (lv_room (Nat.le_of_ble_eq_true rfl)) dMa_commitmentWith_16 ⟨(by decide), (by decide)⟩) hS (fun q _ h => hFc q h) hFc (fun r3 u4 t H1 locs ht hvm hw hB hz1 hk1 hS => ?_)
  obtain ⟨hP1, hK1, hD1⟩ := hB
  rw [ht] at hP1
  have hK1 := va_K.moved hvm.symm hK1
  obtain ⟨hP, hD⟩ := va_join (wr := [(h0, ce_Ma h0_cells h0_tree u)]) (w1 := []) hP hD [] [0] rfl rfl (by decide) (by decide) hk1 hFc hP1 hD1
  have hK := (hK.sub (tys' := []) [] rfl).app hK1
  generalize H1 = H at hP hS ⊢
  have hP : va_P (dC, dI) vwCl [(h0, ce_Ma h0_cells h0_tree u)] H := hP
  have hD : va_D A [(h0, ce_Ma h0_cells h0_tree u)] := hD
  have hK : va_K (dC, dI) vwCl [] s := hK
  refine lv_lstore_n (lv' := [(3, .long r3), (0, .ref h0), (1, .long k1)]) hx hb dMa_commitmentWith_19 rfl hl (by decide) rfl (fun ls hl => ?_)
  refine lv_lload_n hx hb dMa_commitmentWith_20 rfl (lv_at hl 0 rfl) ?_
  refine lv_aload_n hx hb dMa_commitmentWith_21 rfl (lv_at hl 1 rfl) ?_
  refine va_get (D := (dC, dI)) (ci := 4) (v := .int u.2.2.1) (C := "StepCourt$Machine") (T := TMa) (N := 8) hx hb hq inMa hown hK hP 0 rfl rfl 4 (by decide) (hq _ wt_75) (fun _ h9 => h9) rfl dMa_commitmentWith_22 ?_
  refine lv_i2l (v := u.2.2.1.toInt64) hx hb dMa_commitmentWith_25 rfl ?_
  have hPc := hP.sub (ws' := []) [] rfl
  have hDc := hD.sub (ws' := []) [] (by decide) rfl
  have hKc := hK.sub (tys' := []) [] rfl
  have hFc := va_free (wc := []) hD hS hA [] rfl
  refine va_calll (va_runS (As := [.long r3, .long (u.2.2.1.toInt64)]) (rest := []) ⟨hx, hb, hml, hown, hq⟩ (mt_Mi_mix l dC dI H.size _ () r3 (u.2.2.1.toInt64) hw) ⟨cq_B 2 hq wt_241 wt_253 wt_9 rfl rfl hd_Mi_mix ⟨Nat.le_of_ble_eq_true rfl, Nat.le_of_ble_eq_true rfl⟩, (hq _ wt_240)⟩ ⟨kp_bl, kp_at hPc hKc hDc hZ⟩ rfl rfl hl.1 rfl (lv_room (Nat.le_of_ble_eq_true rfl)) dMa_commitmentWith_26 ⟨(by decide), (by decide)⟩) hS (fun q _ h => hFc q h) hFc (fun r5 u6 t H1 locs ht hvm hw hB hz1 hk1 hS => ?_)
  obtain ⟨hP1, hK1, hD1⟩ := hB
  rw [ht] at hP1
  have hK1 := va_K.moved hvm.symm hK1
  obtain ⟨hP, hD⟩ := va_join (wr := [(h0, ce_Ma h0_cells h0_tree u)]) (w1 := []) hP hD [] [0] rfl rfl (by decide) (by decide) hk1 hFc hP1 hD1
  have hK := (hK.sub (tys' := []) [] rfl).app hK1
  generalize H1 = H at hP hS ⊢
  have hP : va_P (dC, dI) vwCl [(h0, ce_Ma h0_cells h0_tree u)] H := hP
  have hD : va_D A [(h0, ce_Ma h0_cells h0_tree u)] := hD
  have hK : va_K (dC, dI) vwCl [] s := hK
  refine lv_lstore_n (lv' := [(3, .long r5), (0, .ref h0), (1, .long k1)]) hx hb dMa_commitmentWith_29 rfl hl (by decide) rfl (fun ls hl => ?_)
  refine lv_lload_n hx hb dMa_commitmentWith_30 rfl (lv_at hl 0 rfl) ?_
  refine lv_aload_n hx hb dMa_commitmentWith_31 rfl (lv_at hl 1 rfl) ?_
  refine va_get (D := (dC, dI)) (ci := 4) (v := .int u.2.2.2.1) (C := "StepCourt$Machine") (T := TMa) (N := 8) hx hb hq inMa hown hK hP 0 rfl rfl 5 (by decide) (hq _ wt_78) (fun _ h9 => h9) rfl dMa_commitmentWith_32 ?_
  refine lv_i2l (v := u.2.2.2.1.toInt64) hx hb dMa_commitmentWith_35 rfl ?_
  have hPc := hP.sub (ws' := []) [] rfl
  have hDc := hD.sub (ws' := []) [] (by decide) rfl
  have hKc := hK.sub (tys' := []) [] rfl
  have hFc := va_free (wc := []) hD hS hA [] rfl
  refine va_calll (va_runS (As := [.long r5, .long (u.2.2.2.1.toInt64)]) (rest := []) ⟨hx, hb, hml, hown, hq⟩ (mt_Mi_mix l dC dI H.size _ () r5 (u.2.2.2.1.toInt64) hw) ⟨cq_B 2 hq wt_241 wt_253 wt_9 rfl rfl hd_Mi_mix ⟨Nat.le_of_ble_eq_true rfl, Nat.le_of_ble_eq_true rfl⟩, (hq _ wt_240)⟩ ⟨kp_bl, kp_at hPc hKc hDc hZ⟩ rfl rfl hl.1 rfl (lv_room (Nat.le_of_ble_eq_true rfl)) dMa_commitmentWith_36 ⟨(by decide), (by decide)⟩) hS (fun q _ h => hFc q h) hFc (fun r7 u8 t H1 locs ht hvm hw hB hz1 hk1 hS => ?_)
  obtain ⟨hP1, hK1, hD1⟩ := hB
  rw [ht] at hP1
  have hK1 := va_K.moved hvm.symm hK1
  obtain ⟨hP, hD⟩ := va_join (wr := [(h0, ce_Ma h0_cells h0_tree u)]) (w1 := []) hP hD [] [0] rfl rfl (by decide) (by decide) hk1 hFc hP1 hD1
  have hK := (hK.sub (tys' := []) [] rfl).app hK1
  generalize H1 = H at hP hS ⊢
  have hP : va_P (dC, dI) vwCl [(h0, ce_Ma h0_cells h0_tree u)] H := hP
  have hD : va_D A [(h0, ce_Ma h0_cells h0_tree u)] := hD
  have hK : va_K (dC, dI) vwCl [] s := hK
  refine lv_lstore_n (lv' := [(3, .long r7), (0, .ref h0), (1, .long k1)]) hx hb dMa_commitmentWith_39 rfl hl (by decide) rfl (fun ls hl => ?_)
  refine lv_lload_n hx hb dMa_commitmentWith_40 rfl (lv_at hl 0 rfl) ?_
  refine lv_aload_n hx hb dMa_commitmentWith_41 rfl (lv_at hl 1 rfl) ?_
  refine va_get (D := (dC, dI)) (ci := 4) (v := .int u.2.2.2.2.1) (C := "StepCourt$Machine") (T := TMa) (N := 8) hx hb hq inMa hown hK hP 0 rfl rfl 6 (by decide) (hq _ wt_81) (fun _ h9 => h9) rfl dMa_commitmentWith_42 ?_
  refine lv_i2l (v := u.2.2.2.2.1.toInt64) hx hb dMa_commitmentWith_45 rfl ?_
  have hPc := hP.sub (ws' := []) [] rfl
  have hDc := hD.sub (ws' := []) [] (by decide) rfl
  have hKc := hK.sub (tys' := []) [] rfl
  have hFc := va_free (wc := []) hD hS hA [] rfl
  refine va_calll (va_runS (As := [.long r7, .long (u.2.2.2.2.1.toInt64)]) (rest := []) ⟨hx, hb, hml, hown, hq⟩ (mt_Mi_mix l dC dI H.size _ () r7 (u.2.2.2.2.1.toInt64) hw) ⟨cq_B 2 hq wt_241 wt_253 wt_9 rfl rfl hd_Mi_mix ⟨Nat.le_of_ble_eq_true rfl, Nat.le_of_ble_eq_true rfl⟩, (hq _ wt_240)⟩ ⟨kp_bl, kp_at hPc hKc hDc hZ⟩ rfl rfl hl.1 rfl (lv_room (Nat.le_of_ble_eq_true rfl)) dMa_commitmentWith_46 ⟨(by decide), (by decide)⟩) hS (fun q _ h => hFc q h) hFc (fun r9 u10 t H1 locs ht hvm hw hB hz1 hk1 hS => ?_)
  obtain ⟨hP1, hK1, hD1⟩ := hB
  rw [ht] at hP1
  have hK1 := va_K.moved hvm.symm hK1
  obtain ⟨hP, hD⟩ := va_join (wr := [(h0, ce_Ma h0_cells h0_tree u)]) (w1 := []) hP hD [] [0] rfl rfl (by decide) (by decide) hk1 hFc hP1 hD1
  have hK := (hK.sub (tys' := []) [] rfl).app hK1
  generalize H1 = H at hP hS ⊢
  have hP : va_P (dC, dI) vwCl [(h0, ce_Ma h0_cells h0_tree u)] H := hP
  have hD : va_D A [(h0, ce_Ma h0_cells h0_tree u)] := hD
  have hK : va_K (dC, dI) vwCl [] s := hK
  refine lv_lstore_n (lv' := [(3, .long r9), (0, .ref h0), (1, .long k1)]) hx hb dMa_commitmentWith_49 rfl hl (by decide) rfl (fun ls hl => ?_)
  refine lv_lload_n hx hb dMa_commitmentWith_50 rfl (lv_at hl 0 rfl) ?_
  refine lv_aload_n hx hb dMa_commitmentWith_51 rfl (lv_at hl 1 rfl) ?_
  refine va_get (D := (dC, dI)) (ci := 4) (v := .long u.2.2.2.2.2) (C := "StepCourt$Machine") (T := TMa) (N := 8) hx hb hq inMa hown hK hP 0 rfl rfl 7 (by decide) (hq _ wt_84) (fun _ h9 => h9) rfl dMa_commitmentWith_52 ?_
  have hPc := hP.sub (ws' := []) [] rfl
  have hDc := hD.sub (ws' := []) [] (by decide) rfl
  have hKc := hK.sub (tys' := []) [] rfl
  have hFc := va_free (wc := []) hD hS hA [] rfl
  refine va_calll (va_runS (As := [.long r9, .long u.2.2.2.2.2]) (rest := []) ⟨hx, hb, hml, hown, hq⟩ (mt_Mi_mix l dC dI H.size _ () r9 u.2.2.2.2.2 hw) ⟨cq_B 2 hq wt_241 wt_253 wt_9 rfl rfl hd_Mi_mix ⟨Nat.le_of_ble_eq_true rfl, Nat.le_of_ble_eq_true rfl⟩, (hq _ wt_240)⟩ ⟨kp_bl, kp_at hPc hKc hDc hZ⟩ rfl rfl hl.1 rfl (lv_room (Nat.le_of_ble_eq_true rfl)) dMa_commitmentWith_55 ⟨(by decide), (by decide)⟩) hS (fun q _ h => hFc q h) hFc (fun r11 u12 t H1 locs ht hvm hw hB hz1 hk1 hS => ?_)
  obtain ⟨hP1, hK1, hD1⟩ := hB
  rw [ht] at hP1
  have hK1 := va_K.moved hvm.symm hK1
  obtain ⟨hP, hD⟩ := va_join (wr := [(h0, ce_Ma h0_cells h0_tree u)]) (w1 := []) hP hD [] [0] rfl rfl (by decide) (by decide) hk1 hFc hP1 hD1
  have hK := (hK.sub (tys' := []) [] rfl).app hK1
  generalize H1 = H at hP hS ⊢
  have hP : va_P (dC, dI) vwCl [(h0, ce_Ma h0_cells h0_tree u)] H := hP
  have hD : va_D A [(h0, ce_Ma h0_cells h0_tree u)] := hD
  have hK : va_K (dC, dI) vwCl [] s := hK
  refine lv_lstore_n (lv' := [(3, .long r11), (0, .ref h0), (1, .long k1)]) hx hb dMa_commitmentWith_58 rfl hl (by decide) rfl (fun ls hl => ?_)
  refine lv_lload_n hx hb dMa_commitmentWith_59 rfl (lv_at hl 0 rfl) ?_
  refine lv_lload_n hx hb dMa_commitmentWith_60 rfl (lv_at hl 2 rfl) ?_
  have hPc := hP.sub (ws' := []) [] rfl
  have hDc := hD.sub (ws' := []) [] (by decide) rfl
  have hKc := hK.sub (tys' := []) [] rfl
  have hFc := va_free (wc := []) hD hS hA [] rfl
  refine va_calll (va_runS (As := [.long r11, .long k1]) (rest := []) ⟨hx, hb, hml, hown, hq⟩ (mt_Mi_mix l dC dI H.size _ () r11 k1 hw) ⟨cq_B 2 hq wt_241 wt_253 wt_9 rfl rfl hd_Mi_mix ⟨Nat.le_of_ble_eq_true rfl, Nat.le_of_ble_eq_true rfl⟩, (hq _ wt_240)⟩ ⟨kp_bl, kp_at hPc hKc hDc hZ⟩ rfl rfl hl.1 rfl (lv_room (Nat.le_of_ble_eq_true rfl)) dMa_commitmentWith_61 ⟨(by decide), (by decide)⟩) hS (fun q _ h => hFc q h) hFc (fun r13 u14 t H1 locs ht hvm hw hB hz1 hk1 hS => ?_)
  obtain ⟨hP1, hK1, hD1⟩ := hB
  rw [ht] at hP1
  have hK1 := va_K.moved hvm.symm hK1
  obtain ⟨hP, hD⟩ := va_join (wr := [(h0, ce_Ma h0_cells h0_tree u)]) (w1 := []) hP hD [] [0] rfl rfl (by decide) (by decide) hk1 hFc hP1 hD1
  have hK := (hK.sub (tys' := []) [] rfl).app hK1
  generalize H1 = H at hP hS ⊢
  have hP : va_P (dC, dI) vwCl [(h0, ce_Ma h0_cells h0_tree u)] H := hP
  have hD : va_D A [(h0, ce_Ma h0_cells h0_tree u)] := hD
  have hK : va_K (dC, dI) vwCl [] s := hK
  have hP9 := hP.sub (ws' := [(h0, ce_Ma h0_cells h0_tree u)]) [0] rfl
  have hD9 := hD.sub (ws' := [(h0, ce_Ma h0_cells h0_tree u)]) [0] (by decide) rfl
  have hK9 := hK.sub (tys' := []) [] rfl
  exact W.lret (v := r13) hx hb hr (fun t ht hW => ⟨⟨r13, u, rfl, hw, by rw [ht]; exact hP9, va_K.moved hW.alike hK9, hD9⟩, hS.F ht⟩) hS.2.2 dMa_commitmentWith_64
abbrev ww_Ma_commitment (h0 h0_cells h0_tree : Nat) (c0_cells c0_tree : ClassId) (u : ct_Ma × (Nat → Int32) × (Nat → Int64)) : va_W := [(h0, ce_Ma h0_cells h0_tree u.1), (h0_cells, .inl (c0_cells, 8, .inl u.2.1)), (h0_tree, .inl (c0_tree, 16, .inr (.inl u.2.2)))]
def wp_Ma_commitment (post : Int64 → (ct_Ma × (Nat → Int32) × (Nat → Int64)) → Prop) (u : ct_Ma × (Nat → Int32) × (Nat → Int64)) : Prop := wp_Ma_growTree (fun u2 => (wp_Ma_commitmentWith (fun r3 u4 => (post r3 (u4, u2.2.1, u2.2.2))) u2.1 (u2.2.2 1) )) (u.1, u.2.1, u.2.2) 
set_option maxHeartbeats 4000000 in
set_option maxRecDepth 100000 in
theorem mt_Ma_commitment (l : Launch) (dC : Nat → ClassId) (dI : Nat → Nat → Nat) (h0 h0_cells h0_tree : Nat) (c0_cells c0_tree : ClassId) (sz : Nat) (post : Int64 → (ct_Ma × (Nat → Int32) × (Nat → Int64)) → Prop) (u : ct_Ma × (Nat → Int32) × (Nat → Int64)) (hw : wp_Ma_commitment post u) : Met l yMa_commitment wsMa_commitment ({ frames := 3, cells := 0, slots := 0, locals := 69 }) (kp_P dC dI [.ref h0] sz (ww_Ma_commitment h0 h0_cells h0_tree c0_cells c0_tree u) [(c0_cells, .int), (c0_tree, .long)]) (va_Ql post (fun u9 => kp_B dC dI (va_A (ww_Ma_commitment h0 h0_cells h0_tree c0_cells c0_tree u) sz) (ww_Ma_commitment h0 h0_cells h0_tree c0_cells c0_tree u9) [(c0_cells, .int), (c0_tree, .long)]) (va_A (ww_Ma_commitment h0 h0_cells h0_tree c0_cells c0_tree u) sz)) 0 0 (va_A (ww_Ma_commitment h0 h0_cells h0_tree c0_cells c0_tree u) sz) := by
  refine Met.ofW (cc := cMa_commitment) (maxL := 1) (ret := (some .long)) (by decide) rfl ?_
  intro p e s m args below meth c s₁ B hml hv
  obtain ⟨rfl, hsz, hP, hK, hD0, hZ⟩ := hv
  have hx := B.exec
  have hb := B.bytes
  have hr := B.returns
  have hq : ∀ w ∈ wz, w.before _ s = true := fun w h => atoms_spec (ws := wsMa_commitment) B.pre w (List.mem_cons_of_mem _ h)
  have hown : s.vm.findClass "StepCourt$Machine" = some m.cls := findClass_of_methodNamed B.named
  have hlocks := B.notSynchronized
  subst hsz
  have hD := hD0.self (sz := s.heap.size)
  generalize hAe : va_A (ww_Ma_commitment h0 h0_cells h0_tree c0_cells c0_tree u) s.heap.size = A at hD ⊢
  have hA : ∀ q : Nat, s.heap.size ≤ q → A q := fun q h => by rw [← hAe]; exact Or.inr h
  have hS : va_S A s.heap s.heap [] := va_S.rf
  have hP : va_P (dC, dI) vwCl [(h0, ce_Ma h0_cells h0_tree u.1), (h0_cells, .inl (c0_cells, 8, .inl u.2.1)), (h0_tree, .inl (c0_tree, 16, .inr (.inl u.2.2)))] s.heap := hP
  have hD : va_D A [(h0, ce_Ma h0_cells h0_tree u.1), (h0_cells, .inl (c0_cells, 8, .inl u.2.1)), (h0_tree, .inl (c0_tree, 16, .inr (.inl u.2.2)))] := hD
  have hl := lv_entry ([.ref h0]) (n := 1) (Nat.le_of_ble_eq_true rfl)
  rw [lg_entry_eq]
  generalize (lg_sl ([.ref h0]) ++ List.replicate (1 - (lg_sl ([.ref h0])).length) Slot.unset).toArray = ls at hl ⊢
  have hl : lv_has ls 1 [(0, .ref h0)] := hl
  skip
  refine lv_aload_n hx hb dMa_commitment_0 rfl (lv_at hl 0 rfl) ?_
  have hPc := hP.sub (ws' := [(h0, ce_Ma h0_cells h0_tree u.1), (h0_cells, .inl (c0_cells, 8, .inl u.2.1)), (h0_tree, .inl (c0_tree, 16, .inr (.inl u.2.2)))]) [0, 1, 2] rfl
  have hDc := hD.sub (ws' := [(h0, ce_Ma h0_cells h0_tree u.1), (h0_cells, .inl (c0_cells, 8, .inl u.2.1)), (h0_tree, .inl (c0_tree, 16, .inr (.inl u.2.2)))]) [0, 1, 2] (by decide) rfl
  have hKc := hK.sub (tys' := [(c0_cells, .int), (c0_tree, .long)]) [0, 1] rfl
  have hFc := va_free (wc := [(h0, ce_Ma h0_cells h0_tree u.1), (h0_cells, .inl (c0_cells, 8, .inl u.2.1)), (h0_tree, .inl (c0_tree, 16, .inr (.inl u.2.2)))]) hD hS hA [0, 1, 2] rfl
  refine va_callv (va_runV (As := []) (rest := []) ⟨hx, hb, hml, hown, hq⟩ (mt_Ma_growTree l dC dI h0 h0_cells h0_tree c0_cells c0_tree s.heap.size _ (u.1, u.2.1, u.2.2) hw) ⟨cq_B 0 hq wt_235 wt_232 wt_4 rfl rfl hd_Ma_growTree ⟨Nat.le_of_ble_eq_true rfl, Nat.le_of_ble_eq_true rfl⟩, (hq _ wt_233), (hq _ wt_234)⟩ ⟨kp_bl, va_recv hKc hPc (ci := 4) (q0 := 0) rfl rfl, kp_at hPc hKc hDc hZ⟩ rfl rfl hl.1 rfl (lv_room (Nat.le_of_ble_eq_true rfl)) dMa_commitment_1 ⟨(by decide), (by decide)⟩) hS (fun q _ h => hFc q h) hFc (fun u2 t H1 locs ht hvm hw hB hz1 hk1 hS => ?_)
  obtain ⟨hP1, hK1, hD1⟩ := hB
  rw [ht] at hP1
  have hK1 := va_K.moved hvm.symm hK1
  obtain ⟨hP, hD⟩ := va_join (wr := []) (w1 := [(h0, ce_Ma h0_cells h0_tree u2.1), (h0_cells, .inl (c0_cells, 8, .inl u2.2.1)), (h0_tree, .inl (c0_tree, 16, .inr (.inl u2.2.2)))]) hP hD [0, 1, 2] [] rfl rfl (by decide) (by decide) hk1 hFc hP1 hD1
  have hK := (hK.sub (tys' := []) [] rfl).app hK1
  generalize H1 = H at hP hS ⊢
  have hP : va_P (dC, dI) vwCl [(h0, ce_Ma h0_cells h0_tree u2.1), (h0_cells, .inl (c0_cells, 8, .inl u2.2.1)), (h0_tree, .inl (c0_tree, 16, .inr (.inl u2.2.2)))] H := hP
  have hD : va_D A [(h0, ce_Ma h0_cells h0_tree u2.1), (h0_cells, .inl (c0_cells, 8, .inl u2.2.1)), (h0_tree, .inl (c0_tree, 16, .inr (.inl u2.2.2)))] := hD
  have hK : va_K (dC, dI) vwCl [(c0_cells, .int), (c0_tree, .long)] s := hK
  refine lv_aload_n hx hb dMa_commitment_4 rfl (lv_at hl 0 rfl) ?_
  refine lv_aload_n hx hb dMa_commitment_5 rfl (lv_at hl 0 rfl) ?_
  refine va_get (D := (dC, dI)) (ci := 4) (v := .ref h0_tree) (C := "StepCourt$Machine") (T := TMa) (N := 8) hx hb hq inMa hown hK hP 0 rfl rfl 1 (by decide) (hq _ wt_67) (fun _ h9 => h9) rfl dMa_commitment_6 ?_
  refine lv_iconst (v := 1) hx hb dMa_commitment_9 (by decide) ?_
  refine va_lald hx hb hK hP 2 1 rfl rfl (show ¬ ((1 : Int32) < 0 ∨ 16 ≤ (1 : Int32).toNatClampNeg) by decide) dMa_commitment_10 ?_
  refine W.eq (g2 := F0 m 11 ls [.long (u2.2.2 1), .ref h0]) rfl ?_
  have hPc := hP.sub (ws' := [(h0, ce_Ma h0_cells h0_tree u2.1)]) [0] rfl
  have hDc := hD.sub (ws' := [(h0, ce_Ma h0_cells h0_tree u2.1)]) [0] (by decide) rfl
  have hKc := hK.sub (tys' := []) [] rfl
  have hFc := va_free (wc := [(h0, ce_Ma h0_cells h0_tree u2.1)]) hD hS hA [0] rfl
  refine va_calll (va_runV (As := [.long (u2.2.2 1)]) (rest := []) ⟨hx, hb, hml, hown, hq⟩ (mt_Ma_commitmentWith l dC dI h0 h0_cells h0_tree H.size _ u2.1 (u2.2.2 1) hw) ⟨cq_B 1 hq wt_252 wt_249 wt_4 rfl rfl hd_Ma_commitmentWith ⟨Nat.le_of_ble_eq_true rfl, Nat.le_of_ble_eq_true rfl⟩, (hq _ wt_250), (hq _ wt_251)⟩ ⟨kp_bl, va_recv hKc hPc (ci := 4) (q0 := 0) rfl rfl, kp_at hPc hKc hDc hZ⟩ rfl rfl hl.1 rfl (lv_room (Nat.le_of_ble_eq_true rfl)) dMa_commitment_11 ⟨(by decide), (by decide)⟩) hS (fun q _ h => hFc q h) hFc (fun r3 u4 t H1 locs ht hvm hw hB hz1 hk1 hS => ?_)
  obtain ⟨hP1, hK1, hD1⟩ := hB
  rw [ht] at hP1
  have hK1 := va_K.moved hvm.symm hK1
  obtain ⟨hP, hD⟩ := va_join (wr := [(h0_cells, .inl (c0_cells, 8, .inl u2.2.1)), (h0_tree, .inl (c0_tree, 16, .inr (.inl u2.2.2)))]) (w1 := [(h0, ce_Ma h0_cells h0_tree u4)]) hP hD [0] [1, 2] rfl rfl (by decide) (by decide) hk1 hFc hP1 hD1
  have hK := (hK.sub (tys' := [(c0_cells, .int), (c0_tree, .long)]) [0, 1] rfl).app hK1
  generalize H1 = H at hP hS ⊢
  have hP : va_P (dC, dI) vwCl [(h0_cells, .inl (c0_cells, 8, .inl u2.2.1)), (h0_tree, .inl (c0_tree, 16, .inr (.inl u2.2.2))), (h0, ce_Ma h0_cells h0_tree u4)] H := hP
  have hD : va_D A [(h0_cells, .inl (c0_cells, 8, .inl u2.2.1)), (h0_tree, .inl (c0_tree, 16, .inr (.inl u2.2.2))), (h0, ce_Ma h0_cells h0_tree u4)] := hD
  have hK : va_K (dC, dI) vwCl [(c0_cells, .int), (c0_tree, .long)] s := hK
  have hP9 := hP.sub (ws' := [(h0, ce_Ma h0_cells h0_tree u4), (h0_cells, .inl (c0_cells, 8, .inl u2.2.1)), (h0_tree, .inl (c0_tree, 16, .inr (.inl u2.2.2)))]) [2, 0, 1] rfl
  have hD9 := hD.sub (ws' := [(h0, ce_Ma h0_cells h0_tree u4), (h0_cells, .inl (c0_cells, 8, .inl u2.2.1)), (h0_tree, .inl (c0_tree, 16, .inr (.inl u2.2.2)))]) [2, 0, 1] (by decide) rfl
  have hK9 := hK.sub (tys' := [(c0_cells, .int), (c0_tree, .long)]) [0, 1] rfl
  exact W.lret (v := r3) hx hb hr (fun t ht hW => ⟨⟨r3, (u4, u2.2.1, u2.2.2), rfl, hw, by rw [ht]; exact hP9, va_K.moved hW.alike hK9, hD9⟩, hS.F ht⟩) hS.2.2 dMa_commitment_14
