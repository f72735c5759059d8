theorem dMi_mix_0 : decode cMi_mix 0 = .ok (.lload_n 0, 1) := by decide +kernel
theorem dMi_mix_1 : decode cMi_mix 1 = .ok (.lload_n 2, 1) := by decide +kernel
theorem dMi_mix_2 : decode cMi_mix 2 = .ok (.ldc2_w 9, 3) := by decide +kernel
theorem dMi_mix_5 : decode cMi_mix 5 = .ok (.lmul, 1) := by decide +kernel
theorem dMi_mix_6 : decode cMi_mix 6 = .ok (.ladd, 1) := by decide +kernel
theorem dMi_mix_7 : decode cMi_mix 7 = .ok (.ldc2_w 11, 3) := by decide +kernel
theorem dMi_mix_10 : decode cMi_mix 10 = .ok (.lxor, 1) := by decide +kernel
theorem dMi_mix_11 : decode cMi_mix 11 = .ok (.lstore 4, 2) := by decide +kernel
theorem dMi_mix_13 : decode cMi_mix 13 = .ok (.lload 4, 2) := by decide +kernel
theorem dMi_mix_15 : decode cMi_mix 15 = .ok (.lload 4, 2) := by decide +kernel
theorem dMi_mix_17 : decode cMi_mix 17 = .ok (.bipush 31, 2) := by decide +kernel
theorem dMi_mix_19 : decode cMi_mix 19 = .ok (.lushr, 1) := by decide +kernel
theorem dMi_mix_20 : decode cMi_mix 20 = .ok (.lxor, 1) := by decide +kernel
theorem dMi_mix_21 : decode cMi_mix 21 = .ok (.lstore 4, 2) := by decide +kernel
theorem dMi_mix_23 : decode cMi_mix 23 = .ok (.lload 4, 2) := by decide +kernel
theorem dMi_mix_25 : decode cMi_mix 25 = .ok (.ldc2_w 13, 3) := by decide +kernel
theorem dMi_mix_28 : decode cMi_mix 28 = .ok (.lmul, 1) := by decide +kernel
theorem dMi_mix_29 : decode cMi_mix 29 = .ok (.lstore 4, 2) := by decide +kernel
theorem dMi_mix_31 : decode cMi_mix 31 = .ok (.lload 4, 2) := by decide +kernel
theorem dMi_mix_33 : decode cMi_mix 33 = .ok (.lload 4, 2) := by decide +kernel
theorem dMi_mix_35 : decode cMi_mix 35 = .ok (.bipush 27, 2) := by decide +kernel
theorem dMi_mix_37 : decode cMi_mix 37 = .ok (.lushr, 1) := by decide +kernel
theorem dMi_mix_38 : decode cMi_mix 38 = .ok (.lxor, 1) := by decide +kernel
theorem dMi_mix_39 : decode cMi_mix 39 = .ok (.lstore 4, 2) := by decide +kernel
theorem dMi_mix_41 : decode cMi_mix 41 = .ok (.lload 4, 2) := by decide +kernel
theorem dMi_mix_43 : decode cMi_mix 43 = .ok (.lreturn, 1) := by decide +kernel
theorem dMi_mixLeaf_0 : decode cMi_mixLeaf 0 = .ok (.lconst 1, 1) := by decide +kernel
theorem dMi_mixLeaf_1 : decode cMi_mixLeaf 1 = .ok (.iload_n 0, 1) := by decide +kernel
theorem dMi_mixLeaf_2 : decode cMi_mixLeaf 2 = .ok (.i2l, 1) := by decide +kernel
theorem dMi_mixLeaf_3 : decode cMi_mixLeaf 3 = .ok (.invokestatic 15, 3) := by decide +kernel
theorem dMi_mixLeaf_6 : decode cMi_mixLeaf 6 = .ok (.lreturn, 1) := by decide +kernel
theorem dMi_mixPair_0 : decode cMi_mixPair 0 = .ok (.ldc2_w 19, 3) := by decide +kernel
theorem dMi_mixPair_3 : decode cMi_mixPair 3 = .ok (.lload_n 0, 1) := by decide +kernel
theorem dMi_mixPair_4 : decode cMi_mixPair 4 = .ok (.invokestatic 15, 3) := by decide +kernel
theorem dMi_mixPair_7 : decode cMi_mixPair 7 = .ok (.lload_n 2, 1) := by decide +kernel
theorem dMi_mixPair_8 : decode cMi_mixPair 8 = .ok (.invokestatic 15, 3) := by decide +kernel
theorem dMi_mixPair_11 : decode cMi_mixPair 11 = .ok (.lreturn, 1) := by decide +kernel
theorem dMo_mix_0 : decode cMo_mix 0 = .ok (.lload_n 0, 1) := by decide +kernel
theorem dMo_mix_1 : decode cMo_mix 1 = .ok (.lload_n 2, 1) := by decide +kernel
theorem dMo_mix_2 : decode cMo_mix 2 = .ok (.ldc2_w 87, 3) := by decide +kernel
theorem dMo_mix_5 : decode cMo_mix 5 = .ok (.lmul, 1) := by decide +kernel
theorem dMo_mix_6 : decode cMo_mix 6 = .ok (.ladd, 1) := by decide +kernel
theorem dMo_mix_7 : decode cMo_mix 7 = .ok (.ldc2_w 89, 3) := by decide +kernel
theorem dMo_mix_10 : decode cMo_mix 10 = .ok (.lxor, 1) := by decide +kernel
theorem dMo_mix_11 : decode cMo_mix 11 = .ok (.lstore 4, 2) := by decide +kernel
theorem dMo_mix_13 : decode cMo_mix 13 = .ok (.lload 4, 2) := by decide +kernel
theorem dMo_mix_15 : decode cMo_mix 15 = .ok (.lload 4, 2) := by decide +kernel
theorem dMo_mix_17 : decode cMo_mix 17 = .ok (.bipush 31, 2) := by decide +kernel
theorem dMo_mix_19 : decode cMo_mix 19 = .ok (.lushr, 1) := by decide +kernel
theorem dMo_mix_20 : decode cMo_mix 20 = .ok (.lxor, 1) := by decide +kernel
theorem dMo_mix_21 : decode cMo_mix 21 = .ok (.lstore 4, 2) := by decide +kernel
theorem dMo_mix_23 : decode cMo_mix 23 = .ok (.lload 4, 2) := by decide +kernel
theorem dMo_mix_25 : decode cMo_mix 25 = .ok (.ldc2_w 91, 3) := by decide +kernel
theorem dMo_mix_28 : decode cMo_mix 28 = .ok (.lmul, 1) := by decide +kernel
theorem dMo_mix_29 : decode cMo_mix 29 = .ok (.lstore 4, 2) := by decide +kernel
theorem dMo_mix_31 : decode cMo_mix 31 = .ok (.lload 4, 2) := by decide +kernel
theorem dMo_mix_33 : decode cMo_mix 33 = .ok (.lload 4, 2) := by decide +kernel
theorem dMo_mix_35 : decode cMo_mix 35 = .ok (.bipush 27, 2) := by decide +kernel
theorem dMo_mix_37 : decode cMo_mix 37 = .ok (.lushr, 1) := by decide +kernel
theorem dMo_mix_38 : decode cMo_mix 38 = .ok (.lxor, 1) := by decide +kernel
theorem dMo_mix_39 : decode cMo_mix 39 = .ok (.lreturn, 1) := by decide +kernel
theorem dMo_pair_0 : decode cMo_pair 0 = .ok (.ldc2_w 93, 3) := by decide +kernel
theorem dMo_pair_3 : decode cMo_pair 3 = .ok (.lload_n 0, 1) := by decide +kernel
theorem dMo_pair_4 : decode cMo_pair 4 = .ok (.invokestatic 95, 3) := by decide +kernel
theorem dMo_pair_7 : decode cMo_pair 7 = .ok (.lload_n 2, 1) := by decide +kernel
theorem dMo_pair_8 : decode cMo_pair 8 = .ok (.invokestatic 95, 3) := by decide +kernel
theorem dMo_pair_11 : decode cMo_pair 11 = .ok (.lreturn, 1) := by decide +kernel
theorem dMo_whole_0 : decode cMo_whole 0 = .ok (.lconst 0, 1) := by decide +kernel
theorem dMo_whole_1 : decode cMo_whole 1 = .ok (.lload_n 0, 1) := by decide +kernel
theorem dMo_whole_2 : decode cMo_whole 2 = .ok (.invokestatic 95, 3) := by decide +kernel
theorem dMo_whole_5 : decode cMo_whole 5 = .ok (.lload_n 2, 1) := by decide +kernel
theorem dMo_whole_6 : decode cMo_whole 6 = .ok (.invokestatic 95, 3) := by decide +kernel
theorem dMo_whole_9 : decode cMo_whole 9 = .ok (.lload 4, 2) := by decide +kernel
theorem dMo_whole_11 : decode cMo_whole 11 = .ok (.invokestatic 95, 3) := by decide +kernel
theorem dMo_whole_14 : decode cMo_whole 14 = .ok (.lload 6, 2) := by decide +kernel
theorem dMo_whole_16 : decode cMo_whole 16 = .ok (.invokestatic 95, 3) := by decide +kernel
theorem dMo_whole_19 : decode cMo_whole 19 = .ok (.lload 8, 2) := by decide +kernel
theorem dMo_whole_21 : decode cMo_whole 21 = .ok (.invokestatic 95, 3) := by decide +kernel
theorem dMo_whole_24 : decode cMo_whole 24 = .ok (.lstore 14, 2) := by decide +kernel
theorem dMo_whole_26 : decode cMo_whole 26 = .ok (.lload 14, 2) := by decide +kernel
theorem dMo_whole_28 : decode cMo_whole 28 = .ok (.lload 10, 2) := by decide +kernel
theorem dMo_whole_30 : decode cMo_whole 30 = .ok (.invokestatic 95, 3) := by decide +kernel
theorem dMo_whole_33 : decode cMo_whole 33 = .ok (.lload 12, 2) := by decide +kernel
theorem dMo_whole_35 : decode cMo_whole 35 = .ok (.invokestatic 95, 3) := by decide +kernel
theorem dMo_whole_38 : decode cMo_whole 38 = .ok (.lreturn, 1) := by decide +kernel
abbrev ww_Mi_mix (u : Unit) : va_W := []
def wp_Mi_mix (post : Int64 → Unit → Prop) (u : Unit) (k0 : Int64) (k1 : Int64) : Prop := ∀ y1 : Int64, y1 = ((k0 + (k1 * 6364136223846793005)) ^^^ 3935559000370003845) → (∀ y2 : Int64, y2 = (y1 ^^^ ((y1.toUInt64 >>> ((31 : Int32).toInt64.toUInt64 &&& Int64.toUInt64 63)).toInt64)) → (∀ y3 : Int64, y3 = (y2 * (-7723592293110705685)) → (∀ y4 : Int64, y4 = (y3 ^^^ ((y3.toUInt64 >>> ((27 : Int32).toInt64.toUInt64 &&& Int64.toUInt64 63)).toInt64)) → (post y4 ()))))
set_option maxHeartbeats 4000000 in
set_option maxRecDepth 100000 in
theorem mt_Mi_mix (l : Launch) (dC : Nat → ClassId) (dI : Nat → Nat → Nat) (sz : Nat) (post : Int64 → Unit → Prop) (u : Unit) (k0 : Int64) (k1 : Int64) (hw : wp_Mi_mix post u k0 k1) : Met l yMi_mix wsMi_mix ({ frames := 0, cells := 0, slots := 0, locals := 0 }) (kp_P dC dI [.long k0, .long k1] sz (ww_Mi_mix u) []) (va_Ql post (fun u9 => kp_B dC dI (va_A (ww_Mi_mix u) sz) (ww_Mi_mix u9) []) (va_A (ww_Mi_mix u) sz)) 0 0 (va_A (ww_Mi_mix u) sz) := by
  refine Met.ofW (cc := cMi_mix) (maxL := 6) (ret := (some .long)) (by decide) rfl ?_
  intro p e s m args below meth c s₁ B hml hv
  obtain ⟨rfl, hsz, hP, hK, hD0, hZ⟩ := hv
  have hx := B.exec
  have hb := B.bytes
  have hr := B.returns
  have hq : ∀ w ∈ wz, w.before _ s = true := fun w h => atoms_spec (ws := wsMi_mix) B.pre w (List.mem_cons_of_mem _ h)
  have hown : s.vm.findClass "StepCourt$Mixer" = some m.cls := findClass_of_methodNamed B.named
  have hlocks := B.notSynchronized
  subst hsz
  have hD := hD0.self (sz := s.heap.size)
  generalize hAe : va_A (ww_Mi_mix u) s.heap.size = A at hD ⊢
  have hA : ∀ q : Nat, s.heap.size ≤ q → A q := fun q h => by rw [← hAe]; exact Or.inr h
  have hS : va_S A s.heap s.heap [] := va_S.rf
  have hP : va_P (dC, dI) vwCl [] s.heap := hP
  have hD : va_D A [] := hD
  have hl := lv_entry ([.long k0, .long k1]) (n := 6) (Nat.le_of_ble_eq_true rfl)
  rw [lg_entry_eq]
  generalize (lg_sl ([.long k0, .long k1]) ++ List.replicate (6 - (lg_sl ([.long k0, .long k1])).length) Slot.unset).toArray = ls at hl ⊢
  have hl : lv_has ls 6 [(0, .long k0), (2, .long k1)] := hl
  skip
  refine lv_lload_n hx hb dMi_mix_0 rfl (lv_at hl 0 rfl) ?_
  refine lv_lload_n hx hb dMi_mix_1 rfl (lv_at hl 1 rfl) ?_
  refine lv_ldc2 (v := 6364136223846793005) hx hb hown (hq _ wt_242) dMi_mix_2 ?_
  refine lv_lmul hx hb dMi_mix_5 ?_
  refine lv_ladd hx hb dMi_mix_6 ?_
  refine lv_ldc2 (v := 3935559000370003845) hx hb hown (hq _ wt_243) dMi_mix_7 ?_
  refine lv_lxor hx hb dMi_mix_10 ?_
  refine lv_topl (fun y1 ey1 => ?_)
  have hw := hw y1 ey1
  refine lv_lstore (lv' := [(4, .long y1), (0, .long k0), (2, .long k1)]) hx hb dMi_mix_11 hl (by decide) rfl (fun ls hl => ?_)
  refine lv_lload hx hb dMi_mix_13 (lv_at hl 0 rfl) ?_
  refine lv_lload hx hb dMi_mix_15 (lv_at hl 0 rfl) ?_
  refine lv_bipush (v := 31) hx hb dMi_mix_17 (by decide) ?_
  refine lv_lushr hx hb dMi_mix_19 rfl ?_
  refine W.eq (g2 := F0 m 20 ls [.long ((y1.toUInt64 >>> ((31 : Int32).toInt64.toUInt64 &&& Int64.toUInt64 63)).toInt64), .long y1]) rfl ?_
  refine lv_lxor hx hb dMi_mix_20 ?_
  refine lv_topl (fun y2 ey2 => ?_)
  have hw := hw y2 ey2
  refine lv_lstore (lv' := [(4, .long y2), (0, .long k0), (2, .long k1)]) hx hb dMi_mix_21 hl (by decide) rfl (fun ls hl => ?_)
  refine lv_lload hx hb dMi_mix_23 (lv_at hl 0 rfl) ?_
  refine lv_ldc2 (v := (-7723592293110705685)) hx hb hown (hq _ wt_244) dMi_mix_25 ?_
  refine lv_lmul hx hb dMi_mix_28 ?_
  refine lv_topl (fun y3 ey3 => ?_)
  have hw := hw y3 ey3
  refine lv_lstore (lv' := [(4, .long y3), (0, .long k0), (2, .long k1)]) hx hb dMi_mix_29 hl (by decide) rfl (fun ls hl => ?_)
  refine lv_lload hx hb dMi_mix_31 (lv_at hl 0 rfl) ?_
  refine lv_lload hx hb dMi_mix_33 (lv_at hl 0 rfl) ?_
  refine lv_bipush (v := 27) hx hb dMi_mix_35 (by decide) ?_
  refine lv_lushr hx hb dMi_mix_37 rfl ?_
  refine W.eq (g2 := F0 m 38 ls [.long ((y3.toUInt64 >>> ((27 : Int32).toInt64.toUInt64 &&& Int64.toUInt64 63)).toInt64), .long y3]) rfl ?_
  refine lv_lxor hx hb dMi_mix_38 ?_
  refine lv_topl (fun y4 ey4 => ?_)
  have hw := hw y4 ey4
  refine lv_lstore (lv' := [(4, .long y4), (0, .long k0), (2, .long k1)]) hx hb dMi_mix_39 hl (by decide) rfl (fun ls hl => ?_)
  refine lv_lload hx hb dMi_mix_41 (lv_at hl 0 rfl) ?_
  have hP9 := hP.sub (ws' := []) [] rfl
  have hD9 := hD.sub (ws' := []) [] (by decide) rfl
  have hK9 := hK.sub (tys' := []) [] rfl
  exact W.lret (v := y4) hx hb hr (fun t ht hW => ⟨⟨y4, (), rfl, hw, by rw [ht]; exact hP9, va_K.moved hW.alike hK9, hD9⟩, hS.F ht⟩) hS.2.2 dMi_mix_43
abbrev ww_Mi_mixLeaf (u : Unit) : va_W := []
def wp_Mi_mixLeaf (post : Int64 → Unit → Prop) (u : Unit) (k0 : Int32) : Prop := wp_Mi_mix (fun r1 u2 => (post r1 ())) () 1 (k0.toInt64) 
set_option maxHeartbeats 4000000 in
set_option maxRecDepth 100000 in
theorem mt_Mi_mixLeaf (l : Launch) (dC : Nat → ClassId) (dI : Nat → Nat → Nat) (sz : Nat) (post : Int64 → Unit → Prop) (u : Unit) (k0 : Int32) (hw : wp_Mi_mixLeaf post u k0) : Met l yMi_mixLeaf wsMi_mixLeaf ({ frames := 1, cells := 0, slots := 0, locals := 25 }) (kp_P dC dI [.int k0] sz (ww_Mi_mixLeaf u) []) (va_Ql post (fun u9 => kp_B dC dI (va_A (ww_Mi_mixLeaf u) sz) (ww_Mi_mixLeaf u9) []) (va_A (ww_Mi_mixLeaf u) sz)) 0 0 (va_A (ww_Mi_mixLeaf u) sz) := by
  refine Met.ofW (cc := cMi_mixLeaf) (maxL := 1) (ret := (some .long)) (by decide) rfl ?_
  intro p e s m args below meth c s₁ B hml hv
  obtain ⟨rfl, hsz, hP, hK, hD0, hZ⟩ := hv
  have hx := B.exec
  have hb := B.bytes
  have hr := B.returns
  have hq : ∀ w ∈ wz, w.before _ s = true := fun w h => atoms_spec (ws := wsMi_mixLeaf) B.pre w (List.mem_cons_of_mem _ h)
  have hown : s.vm.findClass "StepCourt$Mixer" = some m.cls := findClass_of_methodNamed B.named
  have hlocks := B.notSynchronized
  subst hsz
  have hD := hD0.self (sz := s.heap.size)
  generalize hAe : va_A (ww_Mi_mixLeaf u) s.heap.size = A at hD ⊢
  have hA : ∀ q : Nat, s.heap.size ≤ q → A q := fun q h => by rw [← hAe]; exact Or.inr h
  have hS : va_S A s.heap s.heap [] := va_S.rf
  have hP : va_P (dC, dI) vwCl [] s.heap := hP
  have hD : va_D A [] := hD
  have hl := lv_entry ([.int k0]) (n := 1) (Nat.le_of_ble_eq_true rfl)
  rw [lg_entry_eq]
  generalize (lg_sl ([.int k0]) ++ List.replicate (1 - (lg_sl ([.int k0])).length) Slot.unset).toArray = ls at hl ⊢
  have hl : lv_has ls 1 [(0, .int k0)] := hl
  skip
  refine lv_lconst (v := 1) hx hb dMi_mixLeaf_0 (by decide) ?_
  refine lv_iload_n hx hb dMi_mixLeaf_1 rfl (lv_at hl 0 rfl) ?_
  refine lv_i2l (v := k0.toInt64) hx hb dMi_mixLeaf_2 rfl ?_
  have hPc := hP.sub (ws' := []) [] rfl
  have hDc := hD.sub (ws' := []) [] (by decide) rfl
  have hKc := hK.sub (tys' := []) [] rfl
  have hFc := va_free (wc := []) hD hS hA [] rfl
  refine va_calll (va_runS (As := [.long 1, .long (k0.toInt64)]) (rest := []) ⟨hx, hb, hml, hown, hq⟩ (mt_Mi_mix l dC dI s.heap.size _ () 1 (k0.toInt64) hw) ⟨cq_B 2 hq wt_241 wt_239 wt_9 rfl rfl hd_Mi_mix ⟨Nat.le_of_ble_eq_true rfl, Nat.le_of_ble_eq_true rfl⟩, (hq _ wt_240)⟩ ⟨kp_bl, kp_at hPc hKc hDc hZ⟩ rfl rfl hl.1 rfl (lv_room (Nat.le_of_ble_eq_true rfl)) dMi_mixLeaf_3 ⟨(by decide), (by decide)⟩) hS (fun q _ h => hFc q h) hFc (fun r1 u2 t H1 locs ht hvm hw hB hz1 hk1 hS => ?_)
  obtain ⟨hP1, hK1, hD1⟩ := hB
  rw [ht] at hP1
  have hK1 := va_K.moved hvm.symm hK1
  obtain ⟨hP, hD⟩ := va_join (wr := []) (w1 := []) hP hD [] [] rfl rfl (by decide) (by decide) hk1 hFc hP1 hD1
  have hK := (hK.sub (tys' := []) [] rfl).app hK1
  generalize H1 = H at hP hS ⊢
  have hP : va_P (dC, dI) vwCl [] H := hP
  have hD : va_D A [] := hD
  have hK : va_K (dC, dI) vwCl [] s := hK
  have hP9 := hP.sub (ws' := []) [] rfl
  have hD9 := hD.sub (ws' := []) [] (by decide) rfl
  have hK9 := hK.sub (tys' := []) [] rfl
  exact W.lret (v := r1) hx hb hr (fun t ht hW => ⟨⟨r1, (), rfl, hw, by rw [ht]; exact hP9, va_K.moved hW.alike hK9, hD9⟩, hS.F ht⟩) hS.2.2 dMi_mixLeaf_6
abbrev ww_Mi_mixPair (u : Unit) : va_W := []
def wp_Mi_mixPair (post : Int64 → Unit → Prop) (u : Unit) (k0 : Int64) (k1 : Int64) : Prop := wp_Mi_mix (fun r1 u2 => (wp_Mi_mix (fun r3 u4 => (post r3 ())) () r1 k1 )) () 2 k0 
set_option maxHeartbeats 4000000 in
set_option maxRecDepth 100000 in
theorem mt_Mi_mixPair (l : Launch) (dC : Nat → ClassId) (dI : Nat → Nat → Nat) (sz : Nat) (post : Int64 → Unit → Prop) (u : Unit) (k0 : Int64) (k1 : Int64) (hw : wp_Mi_mixPair post u k0 k1) : Met l yMi_mixPair wsMi_mixPair ({ frames := 1, cells := 0, slots := 0, locals := 25 }) (kp_P dC dI [.long k0, .long k1] sz (ww_Mi_mixPair u) []) (va_Ql post (fun u9 => kp_B dC dI (va_A (ww_Mi_mixPair u) sz) (ww_Mi_mixPair u9) []) (va_A (ww_Mi_mixPair u) sz)) 0 0 (va_A (ww_Mi_mixPair u) sz) := by
  refine Met.ofW (cc := cMi_mixPair) (maxL := 4) (ret := (some .long)) (by decide) rfl ?_
  intro p e s m args below meth c s₁ B hml hv
  obtain ⟨rfl, hsz, hP, hK, hD0, hZ⟩ := hv
  have hx := B.exec
  have hb := B.bytes
  have hr := B.returns
  have hq : ∀ w ∈ wz, w.before _ s = true := fun w h => atoms_spec (ws := wsMi_mixPair) B.pre w (List.mem_cons_of_mem _ h)
  have hown : s.vm.findClass "StepCourt$Mixer" = some m.cls := findClass_of_methodNamed B.named
  have hlocks := B.notSynchronized
  subst hsz
  have hD := hD0.self (sz := s.heap.size)
  generalize hAe : va_A (ww_Mi_mixPair u) s.heap.size = A at hD ⊢
  have hA : ∀ q : Nat, s.heap.size ≤ q → A q := fun q h => by rw [← hAe]; exact Or.inr h
  have hS : va_S A s.heap s.heap [] := va_S.rf
  have hP : va_P (dC, dI) vwCl [] s.heap := hP
  have hD : va_D A [] := hD
  have hl := lv_entry ([.long k0, .long k1]) (n := 4) (Nat.le_of_ble_eq_true rfl)
  rw [lg_entry_eq]
  generalize (lg_sl ([.long k0, .long k1]) ++ List.replicate (4 - (lg_sl ([.long k0, .long k1])).length) Slot.unset).toArray = ls at hl ⊢
  have hl : lv_has ls 4 [(0, .long k0), (2, .long k1)] := hl
  skip
  refine lv_ldc2 (v := 2) hx hb hown (hq _ wt_248) dMi_mixPair_0 ?_
  refine lv_lload_n hx hb dMi_mixPair_3 rfl (lv_at hl 0 rfl) ?_
  have hPc := hP.sub (ws' := []) [] rfl
  have hDc := hD.sub (ws' := []) [] (by decide) rfl
  have hKc := hK.sub (tys' := []) [] rfl
  have hFc := va_free (wc := []) hD hS hA [] rfl
  refine va_calll (va_runS (As := [.long 2, .long k0]) (rest := []) ⟨hx, hb, hml, hown, hq⟩ (mt_Mi_mix l dC dI s.heap.size _ () 2 k0 hw) ⟨cq_B 2 hq wt_241 wt_239 wt_9 rfl rfl hd_Mi_mix ⟨Nat.le_of_ble_eq_true rfl, Nat.le_of_ble_eq_true rfl⟩, (hq _ wt_240)⟩ ⟨kp_bl, kp_at hPc hKc hDc hZ⟩ rfl rfl hl.1 rfl (lv_room (Nat.le_of_ble_eq_true rfl)) dMi_mixPair_4 ⟨(by decide), (by decide)⟩) hS (fun q _ h => hFc q h) hFc (fun r1 u2 t H1 locs ht hvm hw hB hz1 hk1 hS => ?_)
  obtain ⟨hP1, hK1, hD1⟩ := hB
  rw [ht] at hP1
  have hK1 := va_K.moved hvm.symm hK1
  obtain ⟨hP, hD⟩ := va_join (wr := []) (w1 := []) hP hD [] [] rfl rfl (by decide) (by decide) hk1 hFc hP1 hD1
  have hK := (hK.sub (tys' := []) [] rfl).app hK1
  generalize H1 = H at hP hS ⊢
  have hP : va_P (dC, dI) vwCl [] H := hP
  have hD : va_D A [] := hD
  have hK : va_K (dC, dI) vwCl [] s := hK
  refine lv_lload_n hx hb dMi_mixPair_7 rfl (lv_at hl 1 rfl) ?_
  have hPc := hP.sub (ws' := []) [] rfl
  have hDc := hD.sub (ws' := []) [] (by decide) rfl
  have hKc := hK.sub (tys' := []) [] rfl
  have hFc := va_free (wc := []) hD hS hA [] rfl
  refine va_calll (va_runS (As := [.long r1, .long k1]) (rest := []) ⟨hx, hb, hml, hown, hq⟩ (mt_Mi_mix l dC dI H.size _ () r1 k1 hw) ⟨cq_B 2 hq wt_241 wt_239 wt_9 rfl rfl hd_Mi_mix ⟨Nat.le_of_ble_eq_true rfl, Nat.le_of_ble_eq_true rfl⟩, (hq _ wt_240)⟩ ⟨kp_bl, kp_at hPc hKc hDc hZ⟩ rfl rfl hl.1 rfl (lv_room (Nat.le_of_ble_eq_true rfl)) dMi_mixPair_8 ⟨(by decide), (by decide)⟩) hS (fun q _ h => hFc q h) hFc (fun r3 u4 t H1 locs ht hvm hw hB hz1 hk1 hS => ?_)
  obtain ⟨hP1, hK1, hD1⟩ := hB
  rw [ht] at hP1
  have hK1 := va_K.moved hvm.symm hK1
  obtain ⟨hP, hD⟩ := va_join (wr := []) (w1 := []) hP hD [] [] rfl rfl (by decide) (by decide) hk1 hFc hP1 hD1
  have hK := (hK.sub (tys' := []) [] rfl).app hK1
  generalize H1 = H at hP hS ⊢
  have hP : va_P (dC, dI) vwCl [] H := hP
  have hD : va_D A [] := hD
  have hK : va_K (dC, dI) vwCl [] s := hK
  have hP9 := hP.sub (ws' := []) [] rfl
  have hD9 := hD.sub (ws' := []) [] (by decide) rfl
  have hK9 := hK.sub (tys' := []) [] rfl
  exact W.lret (v := r3) hx hb hr (fun t ht hW => ⟨⟨r3, (), rfl, hw, by rw [ht]; exact hP9, va_K.moved hW.alike hK9, hD9⟩, hS.F ht⟩) hS.2.2 dMi_mixPair_11
abbrev ww_Mo_mix (u : Unit) : va_W := []
def wp_Mo_mix (post : Int64 → Unit → Prop) (u : Unit) (k0 : Int64) (k1 : Int64) : Prop := ∀ y1 : Int64, y1 = ((k0 + (k1 * 6364136223846793005)) ^^^ 3935559000370003845) → (∀ y2 : Int64, y2 = (y1 ^^^ ((y1.toUInt64 >>> ((31 : Int32).toInt64.toUInt64 &&& Int64.toUInt64 63)).toInt64)) → (∀ y3 : Int64, y3 = (y2 * (-7723592293110705685)) → (post (y3 ^^^ ((y3.toUInt64 >>> ((27 : Int32).toInt64.toUInt64 &&& Int64.toUInt64 63)).toInt64)) ())))
set_option maxHeartbeats 4000000 in
set_option maxRecDepth 100000 in
theorem mt_Mo_mix (l : Launch) (dC : Nat → ClassId) (dI : Nat → Nat → Nat) (sz : Nat) (post : Int64 → Unit → Prop) (u : Unit) (k0 : Int64) (k1 : Int64) (hw : wp_Mo_mix post u k0 k1) : Met l yMo_mix wsMo_mix ({ frames := 0, cells := 0, slots := 0, locals := 0 }) (kp_P dC dI [.long k0, .long k1] sz (ww_Mo_mix u) []) (va_Ql post (fun u9 => kp_B dC dI (va_A (ww_Mo_mix u) sz) (ww_Mo_mix u9) []) (va_A (ww_Mo_mix u) sz)) 0 0 (va_A (ww_Mo_mix u) sz) := by
  refine Met.ofW (cc := cMo_mix) (maxL := 6) (ret := (some .long)) (by decide) rfl ?_
  intro p e s m args below meth c s₁ B hml hv
  obtain ⟨rfl, hsz, hP, hK, hD0, hZ⟩ := hv
  have hx := B.exec
  have hb := B.bytes
  have hr := B.returns
  have hq : ∀ w ∈ wz, w.before _ s = true := fun w h => atoms_spec (ws := wsMo_mix) B.pre w (List.mem_cons_of_mem _ h)
  have hown : s.vm.findClass "StepCourtModel" = some m.cls := findClass_of_methodNamed B.named
  have hlocks := B.notSynchronized
  subst hsz
  have hD := hD0.self (sz := s.heap.size)
  generalize hAe : va_A (ww_Mo_mix u) s.heap.size = A at hD ⊢
  have hA : ∀ q : Nat, s.heap.size ≤ q → A q := fun q h => by rw [← hAe]; exact Or.inr h
  have hS : va_S A s.heap s.heap [] := va_S.rf
  have hP : va_P (dC, dI) vwCl [] s.heap := hP
  have hD : va_D A [] := hD
  have hl := lv_entry ([.long k0, .long k1]) (n := 6) (Nat.le_of_ble_eq_true rfl)
  rw [lg_entry_eq]
  generalize (lg_sl ([.long k0, .long k1]) ++ List.replicate (6 - (lg_sl ([.long k0, .long k1])).length) Slot.unset).toArray = ls at hl ⊢
  have hl : lv_has ls 6 [(0, .long k0), (2, .long k1)] := hl
  skip
  refine lv_lload_n hx hb dMo_mix_0 rfl (lv_at hl 0 rfl) ?_
  refine lv_lload_n hx hb dMo_mix_1 rfl (lv_at hl 1 rfl) ?_
  refine lv_ldc2 (v := 6364136223846793005) hx hb hown (hq _ wt_724) dMo_mix_2 ?_
  refine lv_lmul hx hb dMo_mix_5 ?_
  refine lv_ladd hx hb dMo_mix_6 ?_
  refine lv_ldc2 (v := 3935559000370003845) hx hb hown (hq _ wt_725) dMo_mix_7 ?_
  refine lv_lxor hx hb dMo_mix_10 ?_
  refine lv_topl (fun y1 ey1 => ?_)
  have hw := hw y1 ey1
  refine lv_lstore (lv' := [(4, .long y1), (0, .long k0), (2, .long k1)]) hx hb dMo_mix_11 hl (by decide) rfl (fun ls hl => ?_)
  refine lv_lload hx hb dMo_mix_13 (lv_at hl 0 rfl) ?_
  refine lv_lload hx hb dMo_mix_15 (lv_at hl 0 rfl) ?_
  refine lv_bipush (v := 31) hx hb dMo_mix_17 (by decide) ?_
  refine lv_lushr hx hb dMo_mix_19 rfl ?_
  refine W.eq (g2 := F0 m 20 ls [.long ((y1.toUInt64 >>> ((31 : Int32).toInt64.toUInt64 &&& Int64.toUInt64 63)).toInt64), .long y1]) rfl ?_
  refine lv_lxor hx hb dMo_mix_20 ?_
  refine lv_topl (fun y2 ey2 => ?_)
  have hw := hw y2 ey2
  refine lv_lstore (lv' := [(4, .long y2), (0, .long k0), (2, .long k1)]) hx hb dMo_mix_21 hl (by decide) rfl (fun ls hl => ?_)
  refine lv_lload hx hb dMo_mix_23 (lv_at hl 0 rfl) ?_
  refine lv_ldc2 (v := (-7723592293110705685)) hx hb hown (hq _ wt_726) dMo_mix_25 ?_
  refine lv_lmul hx hb dMo_mix_28 ?_
  refine lv_topl (fun y3 ey3 => ?_)
  have hw := hw y3 ey3
  refine lv_lstore (lv' := [(4, .long y3), (0, .long k0), (2, .long k1)]) hx hb dMo_mix_29 hl (by decide) rfl (fun ls hl => ?_)
  refine lv_lload hx hb dMo_mix_31 (lv_at hl 0 rfl) ?_
  refine lv_lload hx hb dMo_mix_33 (lv_at hl 0 rfl) ?_
  refine lv_bipush (v := 27) hx hb dMo_mix_35 (by decide) ?_
  refine lv_lushr hx hb dMo_mix_37 rfl ?_
  refine W.eq (g2 := F0 m 38 ls [.long ((y3.toUInt64 >>> ((27 : Int32).toInt64.toUInt64 &&& Int64.toUInt64 63)).toInt64), .long y3]) rfl ?_
  refine lv_lxor hx hb dMo_mix_38 ?_
  have hP9 := hP.sub (ws' := []) [] rfl
  have hD9 := hD.sub (ws' := []) [] (by decide) rfl
  have hK9 := hK.sub (tys' := []) [] rfl
  exact W.lret (v := (y3 ^^^ ((y3.toUInt64 >>> ((27 : Int32).toInt64.toUInt64 &&& Int64.toUInt64 63)).toInt64))) hx hb hr (fun t ht hW => ⟨⟨(y3 ^^^ ((y3.toUInt64 >>> ((27 : Int32).toInt64.toUInt64 &&& Int64.toUInt64 63)).toInt64)), (), rfl, hw, by rw [ht]; exact hP9, va_K.moved hW.alike hK9, hD9⟩, hS.F ht⟩) hS.2.2 dMo_mix_39
abbrev ww_Mo_pair (u : Unit) : va_W := []
def wp_Mo_pair (post : Int64 → Unit → Prop) (u : Unit) (k0 : Int64) (k1 : Int64) : Prop := wp_Mo_mix (fun r1 u2 => (wp_Mo_mix (fun r3 u4 => (post r3 ())) () r1 k1 )) () 2 k0 
set_option maxHeartbeats 4000000 in
set_option maxRecDepth 100000 in
theorem mt_Mo_pair (l : Launch) (dC : Nat → ClassId) (dI : Nat → Nat → Nat) (sz : Nat) (post : Int64 → Unit → Prop) (u : Unit) (k0 : Int64) (k1 : Int64) (hw : wp_Mo_pair post u k0 k1) : Met l yMo_pair wsMo_pair ({ frames := 1, cells := 0, slots := 0, locals := 25 }) (kp_P dC dI [.long k0, .long k1] sz (ww_Mo_pair u) []) (va_Ql post (fun u9 => kp_B dC dI (va_A (ww_Mo_pair u) sz) (ww_Mo_pair u9) []) (va_A (ww_Mo_pair u) sz)) 0 0 (va_A (ww_Mo_pair u) sz) := by
  refine Met.ofW (cc := cMo_pair) (maxL := 4) (ret := (some .long)) (by decide) rfl ?_
  intro p e s m args below meth c s₁ B hml hv
  obtain ⟨rfl, hsz, hP, hK, hD0, hZ⟩ := hv
  have hx := B.exec
  have hb := B.bytes
  have hr := B.returns
  have hq : ∀ w ∈ wz, w.before _ s = true := fun w h => atoms_spec (ws := wsMo_pair) B.pre w (List.mem_cons_of_mem _ h)
  have hown : s.vm.findClass "StepCourtModel" = some m.cls := findClass_of_methodNamed B.named
  have hlocks := B.notSynchronized
  subst hsz
  have hD := hD0.self (sz := s.heap.size)
  generalize hAe : va_A (ww_Mo_pair u) s.heap.size = A at hD ⊢
  have hA : ∀ q : Nat, s.heap.size ≤ q → A q := fun q h => by rw [← hAe]; exact Or.inr h
  have hS : va_S A s.heap s.heap [] := va_S.rf
  have hP : va_P (dC, dI) vwCl [] s.heap := hP
  have hD : va_D A [] := hD
  have hl := lv_entry ([.long k0, .long k1]) (n := 4) (Nat.le_of_ble_eq_true rfl)
  rw [lg_entry_eq]
  generalize (lg_sl ([.long k0, .long k1]) ++ List.replicate (4 - (lg_sl ([.long k0, .long k1])).length) Slot.unset).toArray = ls at hl ⊢
  have hl : lv_has ls 4 [(0, .long k0), (2, .long k1)] := hl
  skip
  refine lv_ldc2 (v := 2) hx hb hown (hq _ wt_730) dMo_pair_0 ?_
  refine lv_lload_n hx hb dMo_pair_3 rfl (lv_at hl 0 rfl) ?_
  have hPc := hP.sub (ws' := []) [] rfl
  have hDc := hD.sub (ws' := []) [] (by decide) rfl
  have hKc := hK.sub (tys' := []) [] rfl
  have hFc := va_free (wc := []) hD hS hA [] rfl
  refine va_calll (va_runS (As := [.long 2, .long k0]) (rest := []) ⟨hx, hb, hml, hown, hq⟩ (mt_Mo_mix l dC dI s.heap.size _ () 2 k0 hw) ⟨cq_B 2 hq wt_723 wt_721 wt_10 rfl rfl hd_Mo_mix ⟨Nat.le_of_ble_eq_true rfl, Nat.le_of_ble_eq_true rfl⟩, (hq _ wt_722)⟩ ⟨kp_bl, kp_at hPc hKc hDc hZ⟩ rfl rfl hl.1 rfl (lv_room (Nat.le_of_ble_eq_true rfl)) dMo_pair_4 ⟨(by decide), (by decide)⟩) hS (fun q _ h => hFc q h) hFc (fun r1 u2 t H1 locs ht hvm hw hB hz1 hk1 hS => ?_)
  obtain ⟨hP1, hK1, hD1⟩ := hB
  rw [ht] at hP1
  have hK1 := va_K.moved hvm.symm hK1
  obtain ⟨hP, hD⟩ := va_join (wr := []) (w1 := []) hP hD [] [] rfl rfl (by decide) (by decide) hk1 hFc hP1 hD1
  have hK := (hK.sub (tys' := []) [] rfl).app hK1
  generalize H1 = H at hP hS ⊢
  have hP : va_P (dC, dI) vwCl [] H := hP
  have hD : va_D A [] := hD
  have hK : va_K (dC, dI) vwCl [] s := hK
  refine lv_lload_n hx hb dMo_pair_7 rfl (lv_at hl 1 rfl) ?_
  have hPc := hP.sub (ws' := []) [] rfl
  have hDc := hD.sub (ws' := []) [] (by decide) rfl
  have hKc := hK.sub (tys' := []) [] rfl
  have hFc := va_free (wc := []) hD hS hA [] rfl
  refine va_calll (va_runS (As := [.long r1, .long k1]) (rest := []) ⟨hx, hb, hml, hown, hq⟩ (mt_Mo_mix l dC dI H.size _ () r1 k1 hw) ⟨cq_B 2 hq wt_723 wt_721 wt_10 rfl rfl hd_Mo_mix ⟨Nat.le_of_ble_eq_true rfl, Nat.le_of_ble_eq_true rfl⟩, (hq _ wt_722)⟩ ⟨kp_bl, kp_at hPc hKc hDc hZ⟩ rfl rfl hl.1 rfl (lv_room (Nat.le_of_ble_eq_true rfl)) dMo_pair_8 ⟨(by decide), (by decide)⟩) hS (fun q _ h => hFc q h) hFc (fun r3 u4 t H1 locs ht hvm hw hB hz1 hk1 hS => ?_)
  obtain ⟨hP1, hK1, hD1⟩ := hB
  rw [ht] at hP1
  have hK1 := va_K.moved hvm.symm hK1
  obtain ⟨hP, hD⟩ := va_join (wr := []) (w1 := []) hP hD [] [] rfl rfl (by decide) (by decide) hk1 hFc hP1 hD1
  have hK := (hK.sub (tys' := []) [] rfl).app hK1
  generalize H1 = H at hP hS ⊢
  have hP : va_P (dC, dI) vwCl [] H := hP
  have hD : va_D A [] := hD
  have hK : va_K (dC, dI) vwCl [] s := hK
  have hP9 := hP.sub (ws' := []) [] rfl
  have hD9 := hD.sub (ws' := []) [] (by decide) rfl
  have hK9 := hK.sub (tys' := []) [] rfl
  exact W.lret (v := r3) hx hb hr (fun t ht hW => ⟨⟨r3, (), rfl, hw, by rw [ht]; exact hP9, va_K.moved hW.alike hK9, hD9⟩, hS.F ht⟩) hS.2.2 dMo_pair_11
abbrev ww_Mo_whole (u : Unit) : va_W := []
def wp_Mo_whole (post : Int64 → Unit → Prop) (u : Unit) (k0 : Int64) (k1 : Int64) (k2 : Int64) (k3 : Int64) (k4 : Int64) (k5 : Int64) (k6 : Int64) : Prop := wp_Mo_mix (fun r1 u2 => (wp_Mo_mix (fun r3 u4 => (wp_Mo_mix (fun r5 u6 => (wp_Mo_mix (fun r7 u8 => (wp_Mo_mix (fun r9 u10 => (wp_Mo_mix (fun r11 u12 => (wp_Mo_mix (fun r13 u14 => (post r13 ())) () r11 k6 )) () r9 k5 )) () r7 k4 )) () r5 k3 )) () r3 k2 )) () r1 k1 )) () 0 k0 
set_option maxHeartbeats 4000000 in
set_option maxRecDepth 100000 in
theorem mt_Mo_whole (l : Launch) (dC : Nat → ClassId) (dI : Nat → Nat → Nat) (sz : Nat) (post : Int64 → Unit → Prop) (u : Unit) (k0 : Int64) (k1 : Int64) (k2 : Int64) (k3 : Int64) (k4 : Int64) (k5 : Int64) (k6 : Int64) (hw : wp_Mo_whole post u k0 k1 k2 k3 k4 k5 k6) : Met l yMo_whole wsMo_whole ({ frames := 1, cells := 0, slots := 0, locals := 25 }) (kp_P dC dI [.long k0, .long k1, .long k2, .long k3, .long k4, .long k5, .long k6] sz (ww_Mo_whole u) []) (va_Ql post (fun u9 => kp_B dC dI (va_A (ww_Mo_whole u) sz) (ww_Mo_whole u9) []) (va_A (ww_Mo_whole u) sz)) 0 0 (va_A (ww_Mo_whole u) sz) := by
  refine Met.ofW (cc := cMo_whole) (maxL := 16) (ret := (some .long)) (by decide) rfl ?_
  intro p e s m args below meth c s₁ B hml hv
  obtain ⟨rfl, hsz, hP, hK, hD0, hZ⟩ := hv
  have hx := B.exec
  have hb := B.bytes
  have hr := B.returns
  have hq : ∀ w ∈ wz, w.before _ s = true := fun w h => atoms_spec (ws := wsMo_whole) B.pre w (List.mem_cons_of_mem _ h)
  have hown : s.vm.findClass "StepCourtModel" = some m.cls := findClass_of_methodNamed B.named
  have hlocks := B.notSynchronized
  subst hsz
  have hD := hD0.self (sz := s.heap.size)
  generalize hAe : va_A (ww_Mo_whole u) s.heap.size = A at hD ⊢
  have hA : ∀ q : Nat, s.heap.size ≤ q → A q := fun q h => by rw [← hAe]; exact Or.inr h
  have hS : va_S A s.heap s.heap [] := va_S.rf
  have hP : va_P (dC, dI) vwCl [] s.heap := hP
  have hD : va_D A [] := hD
  have hl := lv_entry ([.long k0, .long k1, .long k2, .long k3, .long k4, .long k5, .long k6]) (n := 16) (Nat.le_of_ble_eq_true rfl)
  rw [lg_entry_eq]
  generalize (lg_sl ([.long k0, .long k1, .long k2, .long k3, .long k4, .long k5, .long k6]) ++ List.replicate (16 - (lg_sl ([.long k0, .long k1, .long k2, .long k3, .long k4, .long k5, .long k6])).length) Slot.unset).toArray = ls at hl ⊢
  have hl : lv_has ls 16 [(0, .long k0), (2, .long k1), (4, .long k2), (6, .long k3), (8, .long k4), (10, .long k5), (12, .long k6)] := hl
  skip
  refine lv_lconst (v := 0) hx hb dMo_whole_0 (by decide) ?_
  refine lv_lload_n hx hb dMo_whole_1 rfl (lv_at hl 0 rfl) ?_
  have hPc := hP.sub (ws' := []) [] rfl
  have hDc := hD.sub (ws' := []) [] (by decide) rfl
  have hKc := hK.sub (tys' := []) [] rfl
  have hFc := va_free (wc := []) hD hS hA [] rfl
  refine va_calll (va_runS (As := [.long 0, .long k0]) (rest := []) ⟨hx, hb, hml, hown, hq⟩ (mt_Mo_mix l dC dI s.heap.size _ () 0 k0 hw) ⟨cq_B 2 hq wt_723 wt_721 wt_10 rfl rfl hd_Mo_mix ⟨Nat.le_of_ble_eq_true rfl, Nat.le_of_ble_eq_true rfl⟩, (hq _ wt_722)⟩ ⟨kp_bl, kp_at hPc hKc hDc hZ⟩ rfl rfl hl.1 rfl (lv_room (Nat.le_of_ble_eq_true rfl)) dMo_whole_2 ⟨(by decide), (by decide)⟩) hS (fun q _ h => hFc q h) hFc (fun r1 u2 t H1 locs ht hvm hw hB hz1 hk1 hS => ?_)
  obtain ⟨hP1, hK1, hD1⟩ := hB
  rw [ht] at hP1
  have hK1 := va_K.moved hvm.symm hK1
  obtain ⟨hP, hD⟩ := va_join (wr := []) (w1 := []) hP hD [] [] rfl rfl (by decide) (by decide) hk1 hFc hP1 hD1
  have hK := (hK.sub (tys' := []) [] rfl).app hK1
  generalize H1 = H at hP hS ⊢
  have hP : va_P (dC, dI) vwCl [] H := hP
  have hD : va_D A [] := hD
  have hK : va_K (dC, dI) vwCl [] s := hK
  refine lv_lload_n hx hb dMo_whole_5 rfl (lv_at hl 1 rfl) ?_
  have hPc := hP.sub (ws' := []) [] rfl
  have hDc := hD.sub (ws' := []) [] (by decide) rfl
  have hKc := hK.sub (tys' := []) [] rfl
  have hFc := va_free (wc := []) hD hS hA [] rfl
  refine va_calll (va_runS (As := [.long r1, .long k1]) (rest := []) ⟨hx, hb, hml, hown, hq⟩ (mt_Mo_mix l dC dI H.size _ () r1 k1 hw) ⟨cq_B 2 hq wt_723 wt_721 wt_10 rfl rfl hd_Mo_mix ⟨Nat.le_of_ble_eq_true rfl, Nat.le_of_ble_eq_true rfl⟩, (hq _ wt_722)⟩ ⟨kp_bl, kp_at hPc hKc hDc hZ⟩ rfl rfl hl.1 rfl (lv_room (Nat.le_of_ble_eq_true rfl)) dMo_whole_6 ⟨(by decide), (by decide)⟩) hS (fun q _ h => hFc q h) hFc (fun r3 u4 t H1 locs ht hvm hw hB hz1 hk1 hS => ?_)
  obtain ⟨hP1, hK1, hD1⟩ := hB
  rw [ht] at hP1
  have hK1 := va_K.moved hvm.symm hK1
  obtain ⟨hP, hD⟩ := va_join (wr := []) (w1 := []) hP hD [] [] rfl rfl (by decide) (by decide) hk1 hFc hP1 hD1
  have hK := (hK.sub (tys' := []) [] rfl).app hK1
  generalize H1 = H at hP hS ⊢
  have hP : va_P (dC, dI) vwCl [] H := hP
  have hD : va_D A [] := hD
  have hK : va_K (dC, dI) vwCl [] s := hK
  refine lv_lload hx hb dMo_whole_9 (lv_at hl 2 rfl) ?_
  have hPc := hP.sub (ws' := []) [] rfl
  have hDc := hD.sub (ws' := []) [] (by decide) rfl
  have hKc := hK.sub (tys' := []) [] rfl
  have hFc := va_free (wc := []) hD hS hA [] rfl
  refine va_calll (va_runS (As := [.long r3, .long k2]) (rest := []) ⟨hx, hb, hml, hown, hq⟩ (mt_Mo_mix l dC dI H.size _ () r3 k2 hw) ⟨cq_B 2 hq wt_723 wt_721 wt_10 rfl rfl hd_Mo_mix ⟨Nat.le_of_ble_eq_true rfl, Nat.le_of_ble_eq_true rfl⟩, (hq _ wt_722)⟩ ⟨kp_bl, kp_at hPc hKc hDc hZ⟩ rfl rfl hl.1 rfl (lv_room (Nat.le_of_ble_eq_true rfl)) dMo_whole_11 ⟨(by decide), (by decide)⟩) hS (fun q _ h => hFc q h) hFc (fun r5 u6 t H1 locs ht hvm hw hB hz1 hk1 hS => ?_)
  obtain ⟨hP1, hK1, hD1⟩ := hB
  rw [ht] at hP1
  have hK1 := va_K.moved hvm.symm hK1
  obtain ⟨hP, hD⟩ := va_join (wr := []) (w1 := []) hP hD [] [] rfl rfl (by decide) (by decide) hk1 hFc hP1 hD1
  have hK := (hK.sub (tys' := []) [] rfl).app hK1
  generalize H1 = H at hP hS ⊢
  have hP : va_P (dC, dI) vwCl [] H := hP
  have hD : va_D A [] := hD
  have hK : va_K (dC, dI) vwCl [] s := hK
  refine lv_lload hx hb dMo_whole_14 (lv_at hl 3 rfl) ?_
  have hPc := hP.sub (ws' := []) [] rfl
  have hDc := hD.sub (ws' := []) [] (by decide) rfl
  have hKc := hK.sub (tys' := []) [] rfl
  have hFc := va_free (wc := []) hD hS hA [] rfl
  refine va_calll (va_runS (As := [.long r5, .long k3]) (rest := []) ⟨hx, hb, hml, hown, hq⟩ (mt_Mo_mix l dC dI H.size _ () r5 k3 hw) ⟨cq_B 2 hq wt_723 wt_721 wt_10 rfl rfl hd_Mo_mix ⟨Nat.le_of_ble_eq_true rfl, Nat.le_of_ble_eq_true rfl⟩, (hq _ wt_722)⟩ ⟨kp_bl, kp_at hPc hKc hDc hZ⟩ rfl rfl hl.1 rfl (lv_room (Nat.le_of_ble_eq_true rfl)) dMo_whole_16 ⟨(by decide), (by decide)⟩) hS (fun q _ h => hFc q h) hFc (fun r7 u8 t H1 locs ht hvm hw hB hz1 hk1 hS => ?_)
  obtain ⟨hP1, hK1, hD1⟩ := hB
  rw [ht] at hP1
  have hK1 := va_K.moved hvm.symm hK1
  obtain ⟨hP, hD⟩ := va_join (wr := []) (w1 := []) hP hD [] [] rfl rfl (by decide) (by decide) hk1 hFc hP1 hD1
  have hK := (hK.sub (tys' := []) [] rfl).app hK1
  generalize H1 = H at hP hS ⊢
  have hP : va_P (dC, dI) vwCl [] H := hP
  have hD : va_D A [] := hD
  have hK : va_K (dC, dI) vwCl [] s := hK
  refine lv_lload hx hb dMo_whole_19 (lv_at hl 4 rfl) ?_
  have hPc := hP.sub (ws' := []) [] rfl
  have hDc := hD.sub (ws' := []) [] (by decide) rfl
  have hKc := hK.sub (tys' := []) [] rfl
  have hFc := va_free (wc := []) hD hS hA [] rfl
  refine va_calll (va_runS (As := [.long r7, .long k4]) (rest := []) ⟨hx, hb, hml, hown, hq⟩ (mt_Mo_mix l dC dI H.size _ () r7 k4 hw) ⟨cq_B 2 hq wt_723 wt_721 wt_10 rfl rfl hd_Mo_mix ⟨Nat.le_of_ble_eq_true rfl, Nat.le_of_ble_eq_true rfl⟩, (hq _ wt_722)⟩ ⟨kp_bl, kp_at hPc hKc hDc hZ⟩ rfl rfl hl.1 rfl (lv_room (Nat.le_of_ble_eq_true rfl)) dMo_whole_21 ⟨(by decide), (by decide)⟩) hS (fun q _ h => hFc q h) hFc (fun r9 u10 t H1 locs ht hvm hw hB hz1 hk1 hS => ?_)
  obtain ⟨hP1, hK1, hD1⟩ := hB
  rw [ht] at hP1
  have hK1 := va_K.moved hvm.symm hK1
  obtain ⟨hP, hD⟩ := va_join (wr := []) (w1 := []) hP hD [] [] rfl rfl (by decide) (by decide) hk1 hFc hP1 hD1
  have hK := (hK.sub (tys' := []) [] rfl).app hK1
  generalize H1 = H at hP hS ⊢
  have hP : va_P (dC, dI) vwCl [] H := hP
  have hD : va_D A [] := hD
  have hK : va_K (dC, dI) vwCl [] s := hK
  refine lv_lstore (lv' := [(14, .long r9), (0, .long k0), (2, .long k1), (4, .long k2), (6, .long k3), (8, .long k4), (10, .long k5), (12, .long k6)]) hx hb dMo_whole_24 hl (by decide) rfl (fun ls hl => ?_)
  refine lv_lload hx hb dMo_whole_26 (lv_at hl 0 rfl) ?_
  refine lv_lload hx hb dMo_whole_28 (lv_at hl 6 rfl) ?_
  have hPc := hP.sub (ws' := []) [] rfl
  have hDc := hD.sub (ws' := []) [] (by decide) rfl
  have hKc := hK.sub (tys' := []) [] rfl
  have hFc := va_free (wc := []) hD hS hA [] rfl
  refine va_calll (va_runS (As := [.long r9, .long k5]) (rest := []) ⟨hx, hb, hml, hown, hq⟩ (mt_Mo_mix l dC dI H.size _ () r9 k5 hw) ⟨cq_B 2 hq wt_723 wt_721 wt_10 rfl rfl hd_Mo_mix ⟨Nat.le_of_ble_eq_true rfl, Nat.le_of_ble_eq_true rfl⟩, (hq _ wt_722)⟩ ⟨kp_bl, kp_at hPc hKc hDc hZ⟩ rfl rfl hl.1 rfl (lv_room (Nat.le_of_ble_eq_true rfl)) dMo_whole_30 ⟨(by decide), (by decide)⟩) hS (fun q _ h => hFc q h) hFc (fun r11 u12 t H1 locs ht hvm hw hB hz1 hk1 hS => ?_)
  obtain ⟨hP1, hK1, hD1⟩ := hB
  rw [ht] at hP1
  have hK1 := va_K.moved hvm.symm hK1
  obtain ⟨hP, hD⟩ := va_join (wr := []) (w1 := []) hP hD [] [] rfl rfl (by decide) (by decide) hk1 hFc hP1 hD1
  have hK := (hK.sub (tys' := []) [] rfl).app hK1
  generalize H1 = H at hP hS ⊢
  have hP : va_P (dC, dI) vwCl [] H := hP
  have hD : va_D A [] := hD
  have hK : va_K (dC, dI) vwCl [] s := hK
  refine lv_lload hx hb dMo_whole_33 (lv_at hl 7 rfl) ?_
  have hPc := hP.sub (ws' := []) [] rfl
  have hDc := hD.sub (ws' := []) [] (by decide) rfl
  have hKc := hK.sub (tys' := []) [] rfl
  have hFc := va_free (wc := []) hD hS hA [] rfl
  refine va_calll (va_runS (As := [.long r11, .long k6]) (rest := []) ⟨hx, hb, hml, hown, hq⟩ (mt_Mo_mix l dC dI H.size _ () r11 k6 hw) ⟨cq_B 2 hq wt_723 wt_721 wt_10 rfl rfl hd_Mo_mix ⟨Nat.le_of_ble_eq_true rfl, Nat.le_of_ble_eq_true rfl⟩, (hq _ wt_722)⟩ ⟨kp_bl, kp_at hPc hKc hDc hZ⟩ rfl rfl hl.1 rfl (lv_room (Nat.le_of_ble_eq_true rfl)) dMo_whole_35 ⟨(by decide), (by decide)⟩) hS (fun q _ h => hFc q h) hFc (fun r13 u14 t H1 locs ht hvm hw hB hz1 hk1 hS => ?_)
  obtain ⟨hP1, hK1, hD1⟩ := hB
  rw [ht] at hP1
  have hK1 := va_K.moved hvm.symm hK1
  obtain ⟨hP, hD⟩ := va_join (wr := []) (w1 := []) hP hD [] [] rfl rfl (by decide) (by decide) hk1 hFc hP1 hD1
  have hK := (hK.sub (tys' := []) [] rfl).app hK1
  generalize H1 = H at hP hS ⊢
  have hP : va_P (dC, dI) vwCl [] H := hP
  have hD : va_D A [] := hD
  have hK : va_K (dC, dI) vwCl [] s := hK
  have hP9 := hP.sub (ws' := []) [] rfl
  have hD9 := hD.sub (ws' := []) [] (by decide) rfl
  have hK9 := hK.sub (tys' := []) [] rfl
  exact W.lret (v := r13) hx hb hr (fun t ht hW => ⟨⟨r13, (), rfl, hw, by rw [ht]; exact hP9, va_K.moved hW.alike hK9, hD9⟩, hS.F ht⟩) hS.2.2 dMo_whole_38
