def lpI (L : Nat) (xs : Nat → Int32) (n : Nat) (v : Int32) (kc ks : Nat) : Prop := ∀ (gc : Int32) (pot : Int32) (blk : Int32) (cnt : Int32) (op : Int32) (str : Int32) (asr : Int32) (stp : Int32) (wds : Int32) (at' : Int32) (thr : Int32) (base : Int64) (trc : Int64) (htr : Int64) (clm : Int64) (b : Nat → Int32) (ops : Nat → Int32) (ag : Nat → Int32) (ws : Nat → Int32) (rl : Nat → Int32) (hd : Nat → Int32) (c : Nat → Int32) (sc : Nat → Int32) (pto : Nat → Int32) (pam : Nat → Int32) (drn : Nat → Int32) (pcl : Nat → Int32) (ch : Nat → Int32) (lo : Nat → Int32) (hi : Nat → Int32) (mf : Nat → Int32) (dl : Nat → Int32) (ru : Nat → Int32) (t1 : Nat → Int64) (st : Nat → Int64) (pj : Nat → Int64) (lc : Nat → Int64) (hc : Nat → Int64) (md : Nat → Int64) (mt : Nat → Int64) (mpth : Nat → Int64) (out : Nat → Int64) (sm : ct_Ma) (pm : ct_Ma) (pr : ct_Pr) (g0 : ct_Ga) (g1 : ct_Ga) (g2 : ct_Ga), Iv gc cnt op asr stp ops rl c pto ch lo hi mf dl ru lc hc md g0 g1 g2 → wl_La_law_23 L xs n v (gc, pot, blk, base) b ops ag cnt ws (mm rl trc) c t1 sm sc st (rl 4) pto pam drn pr pm pcl pj (op, str, asr, stp, wds, at', clm) g0 g1 g2 (thr, str, pot, cnt, blk, trc, htr, base, op, asr, stp, wds, at', clm, gc) ops ag b ws rl hd pto pam drn ch lo hi lc hc mf md dl ru mt mpth out kc ks
theorem lp_step {L : Nat} {xs : Nat → Int32} {n : Nat} {v : Int32} {kc ks : Nat} (hkc : kc ≤ 639275) (hks : ks ≤ 7178020) (hv : ¬ (Int32.ofNat L - 5) < v → vp_in v L ∧ vp_in (v + 1) L ∧ vp_in (v + 2) L ∧ vp_in (v + 3) L ∧ vp_in (v + 4) L) (ih : ¬ (Int32.ofNat L - 5) < v → lpI L xs n (v + 5) (kc + 10) (ks + 60)) : lpI L xs (n + 1) v kc ks := by
  intro gc pot blk cnt op str asr stp wds at' thr base trc htr clm b ops ag ws rl hd c sc pto pam drn pcl ch lo hi mf dl ru t1 st pj lc hc md mt mpth out sm pm pr g0 g1 g2 I
  refine ⟨hkc, hks, fun _ => trivial, fun hn => ⟨(hv hn).1, fun kk ekk => ?_⟩⟩
  obtain ⟨v0, v1, v2, v3, v4⟩ := hv hn
  have ih := ih hn
  clear ekk hv hn hkc hks
  have z := ih gc pot blk cnt op str asr stp wds at' thr base trc htr clm b ops ag ws rl hd c sc pto pam drn pcl ch lo hi mf dl ru t1 st pj lc hc md mt mpth out sm pm pr g0 g1 g2 I
  refine ⟨fun _ => z, fun _ => ⟨fun _ => z, fun _ => ⟨fun _ => ?_, fun _ => ⟨fun _ => ?_, fun _ => ⟨fun _ => ?_, fun _ => ⟨fun _ => ?_, fun _ => ⟨fun _ => ?_, fun _ => ⟨fun _ => ?_, fun _ => ⟨fun _ => ?_, fun _ => ⟨fun _ => ?_, fun _ => ⟨fun _ => ?_, fun _ => ⟨fun _ => ?_, fun _ => ⟨fun _ => ?_, fun _ => ⟨fun _ => ?_, fun _ => ⟨fun _ => ?_, fun _ => ⟨fun _ => ?_, fun _ => ⟨fun _ => ?_, fun _ => ⟨fun _ => ?_, fun _ => ⟨fun _ => ?_, fun _ => ⟨fun _ => ?_, fun _ => trivial⟩⟩⟩⟩⟩⟩⟩⟩⟩⟩⟩⟩⟩⟩⟩⟩⟩⟩⟩⟩
  · simp only [v1, v2, v3, v4, true_and]
    exact g_code I (fun r x0 x1 I' => ih _ _ _ _ _ _ _ _ _ _ _ _ _ _ _ _ _ _ _ _ _ _ _ _ _ _ _ _ _ _ _ _ _ _ _ _ _ _ _ _ _ _ _ _ _ _ _ _ I')
  · simp only [v1, v2, v3, v4, true_and]
    exact g_deposit I (fun t r x0 x1 x2 x3 x4 e I' => ih _ _ _ _ _ _ _ _ _ _ _ _ _ _ _ _ _ _ _ _ _ _ _ _ _ _ _ _ _ _ _ _ _ _ _ _ _ _ _ _ _ _ _ _ _ _ _ _ I')
  · simp only [v1, v2, v3, v4, true_and]
    exact g_send I (fun t r x0 x1 x2 e I' => ih _ _ _ _ _ _ _ _ _ _ _ _ _ _ _ _ _ _ _ _ _ _ _ _ _ _ _ _ _ _ _ _ _ _ _ _ _ _ _ _ _ _ _ _ _ _ _ _ I')
  · simp only [v1, v2, v3, v4, true_and]
    exact g_claim I (fun t r x0 x1 x2 x3 x4 x5 x6 x7 x8 x9 x10 x11 x12 x13 x14 e I' => ih _ _ _ _ _ _ _ _ _ _ _ _ _ _ _ _ _ _ _ _ _ _ _ _ _ _ _ _ _ _ _ _ _ _ _ _ _ _ _ _ _ _ _ _ _ _ _ _ I')
  · simp only [v1, v2, v3, v4, true_and]
    exact g_challenge I (fun t r x0 x1 x2 x3 x4 x5 x6 x7 x8 x9 x10 x11 x12 x13 x14 e I' => ih _ _ _ _ _ _ _ _ _ _ _ _ _ _ _ _ _ _ _ _ _ _ _ _ _ _ _ _ _ _ _ _ _ _ _ _ _ _ _ _ _ _ _ _ _ _ _ _ I')
  · simp only [v1, v2, v3, v4, true_and]
    exact g_post I (fun t r x0 x1 x2 x3 x4 x5 x6 x7 x8 x9 x10 x11 x12 e I' => ih _ _ _ _ _ _ _ _ _ _ _ _ _ _ _ _ _ _ _ _ _ _ _ _ _ _ _ _ _ _ _ _ _ _ _ _ _ _ _ _ _ _ _ _ _ _ _ _ I')
  · simp only [v1, v2, v3, v4, true_and]
    refine ⟨fun e2 => ?_, fun e2 => ?_⟩
    · simp only [e2, true_implies, not_true_eq_false, false_implies, and_true]
      exact g_pick I (fun t r x0 x1 x2 x3 x4 x5 x6 x7 x8 x9 x10 e I' => ih _ _ _ _ _ _ _ _ _ _ _ _ _ _ _ _ _ _ _ _ _ _ _ _ _ _ _ _ _ _ _ _ _ _ _ _ _ _ _ _ _ _ _ _ _ _ _ _ I')
    · simp only [e2, false_implies, not_false_eq_true, true_implies, true_and]
      exact g_pick I (fun t r x0 x1 x2 x3 x4 x5 x6 x7 x8 x9 x10 e I' => ih _ _ _ _ _ _ _ _ _ _ _ _ _ _ _ _ _ _ _ _ _ _ _ _ _ _ _ _ _ _ _ _ _ _ _ _ _ _ _ _ _ _ _ _ _ _ _ _ I')
  · simp only [v1, v2, v3, v4, true_and]
    exact g_prove I (fun t r x0 x1 x2 x3 x4 x5 x6 x7 x8 x9 x10 x11 x12 x13 x14 x15 x16 x17 x18 x19 x20 x21 x22 x23 x24 x25 e I' => ih _ _ _ _ _ _ _ _ _ _ _ _ _ _ _ _ _ _ _ _ _ _ _ _ _ _ _ _ _ _ _ _ _ _ _ _ _ _ _ _ _ _ _ _ _ _ _ _ I')
  · clear v0
    exact g_block I (fun r x0 x1 x2 x3 x4 x5 x6 x7 x8 x9 x10 x11 x12 x13 x14 x15 I' => ⟨fun _ => ih _ _ _ _ _ _ _ _ _ _ _ _ _ _ _ _ _ _ _ _ _ _ _ _ _ _ _ _ _ _ _ _ _ _ _ _ _ _ _ _ _ _ _ _ _ _ _ _ I', fun n => absurd rfl n⟩)
  · simp only [v1, v2, v3, v4, true_and]
    exact g_draw I (fun t r x0 x1 x2 x3 x4 x5 x6 x7 e I' => ih _ _ _ _ _ _ _ _ _ _ _ _ _ _ _ _ _ _ _ _ _ _ _ _ _ _ _ _ _ _ _ _ _ _ _ _ _ _ _ _ _ _ _ _ _ _ _ _ I')
  · simp only [v1, v2, v3, v4, true_and]
    exact g_balance I (fun r I' => ih _ _ _ _ _ _ _ _ _ _ _ _ _ _ _ _ _ _ _ _ _ _ _ _ _ _ _ _ _ _ _ _ _ _ _ _ _ _ _ _ _ _ _ _ _ _ _ _ I')
  · clear v0
    exact g_pot I (fun r I' => ih _ _ _ _ _ _ _ _ _ _ _ _ _ _ _ _ _ _ _ _ _ _ _ _ _ _ _ _ _ _ _ _ _ _ _ _ _ _ _ _ _ _ _ _ _ _ _ _ I')
  · simp only [v1, v2, v3, v4, true_and]
    exact g_word I (fun r I' => ih _ _ _ _ _ _ _ _ _ _ _ _ _ _ _ _ _ _ _ _ _ _ _ _ _ _ _ _ _ _ _ _ _ _ _ _ _ _ _ _ _ _ _ _ _ _ _ _ I')
  · simp only [v1, v2, v3, v4, true_and]
    exact g_truth I (fun r x0 x1 x2 x3 x4 x5 I' => ih _ _ _ _ _ _ _ _ _ _ _ _ _ _ _ _ _ _ _ _ _ _ _ _ _ _ _ _ _ _ _ _ _ _ _ _ _ _ _ _ _ _ _ _ _ _ _ _ I')
  · clear v0
    exact g_base I (fun r I' => ih _ _ _ _ _ _ _ _ _ _ _ _ _ _ _ _ _ _ _ _ _ _ _ _ _ _ _ _ _ _ _ _ _ _ _ _ _ _ _ _ _ _ _ _ _ _ _ _ I')
  · simp only [v1, v2, v3, v4, true_and]
    exact g_state I (fun r I' => ih _ _ _ _ _ _ _ _ _ _ _ _ _ _ _ _ _ _ _ _ _ _ _ _ _ _ _ _ _ _ _ _ _ _ _ _ _ _ _ _ _ _ _ _ _ _ _ _ I')
  · simp only [v1, v2, v3, v4, true_and]
    exact g_assertion I (fun r I' => ih _ _ _ _ _ _ _ _ _ _ _ _ _ _ _ _ _ _ _ _ _ _ _ _ _ _ _ _ _ _ _ _ _ _ _ _ _ _ _ _ _ _ _ _ _ _ _ _ I')
  · simp only [v1, v2, v3, v4, true_and]
    exact g_game I (fun r r' => ih _ _ _ _ _ _ _ _ _ _ _ _ _ _ _ _ _ _ _ _ _ _ _ _ _ _ _ _ _ _ _ _ _ _ _ _ _ _ _ _ _ _ _ _ _ _ _ _ I)
theorem lp_b {L i : Nat} (hL : L ≤ 2560) (hi : i ≤ 513) (hn : ¬ (Int32.ofNat L - 5) < nI (5 * i)) : 5 * i + 5 ≤ L := by
  have e : Int32.ofNat L - 5 = nI L - nI 5 := rfl
  rw [e] at hn
  have hn : ¬ (nI L - nI 5).toInt < (nI (5 * i)).toInt := fun q => hn (Int32.lt_iff_toInt_lt.mpr q)
  rw [pk_sub_toInt (by omega) (by omega), nI_toInt (by omega)] at hn
  omega
theorem lp_v {L i j : Nat} (hL : L ≤ 2560) (h : 5 * i + 5 ≤ L) (hj : j < 5) : vp_in (nI (5 * i) + nI j) L := by
  rw [nI_add]
  exact vp_in_nI (by omega) (by omega)
theorem lp_all {L : Nat} {xs : Nat → Int32} (hL : L ≤ 2560) : ∀ n i, i + n = 513 → 1 ≤ n → lpI L xs n (nI (5 * i)) (49 + 10 * i) (641 + 60 * i) := by
  intro n
  induction n with
  | zero => intro i _ h; exact absurd h (by omega)
  | succ n ih =>
    intro i h _
    refine lp_step (by omega) (by omega) (fun hn => ?_) (fun hn => ?_)
    · have b := lp_b hL (by omega) hn
      exact ⟨vp_in_nI (by omega) (by omega), lp_v (j := 1) hL b (by decide), lp_v (j := 2) hL b (by decide), lp_v (j := 3) hL b (by decide), lp_v (j := 4) hL b (by decide)⟩
    · have b := lp_b hL (by omega) hn
      have q := ih (i + 1) (by omega) (by omega)
      have e1 : nI (5 * i) + 5 = nI (5 * (i + 1)) := (nI_add (5 * i) 5).trans (congrArg nI (by omega))
      have e2 : 49 + 10 * i + 10 = 49 + 10 * (i + 1) := by omega
      have e3 : 641 + 60 * i + 60 = 641 + 60 * (i + 1) := by omega
      rw [e1, e2, e3]
      exact q
abbrev zi : Nat → Int32 := fun _ => 0
abbrev zj : Nat → Int64 := fun _ => 0
abbrev b4 : Nat → Int32 := upd (upd (upd (upd (fun _ => 0) 0 1000) 1 1000) 2 1000) 3 1000
def t0 : Nat → Int64 := tr zi zj
def c0 : Int64 := cm (0, 0, 0, 0, 0, 0) t0
theorem tk_0 : ∀ n, tk (fun _ => 0) (fun _ => 0) n = fun _ => 0 := by
  intro n
  induction n with
  | zero => rfl
  | succ n ih =>
    show upd (tk (fun _ => 0) (fun _ => 0) n) n 0 = _
    rw [ih]
    funext j
    simp [upd]
theorem Iv_0 : Iv 0 0 0 0 0 zi zi zi zi zi zi zi zi zi zi zj zj zj (0, 0, 0, 0, 0, 0, 0, 0, 0) (0, 0, 0, 0, 0, 0, 0, 0, 0) (0, 0, 0, 0, 0, 0, 0, 0, 0) := by
  have q : ∀ i, gq (0, 0, 0, 0, 0, 0, 0, 0, 0) zi zi zi zi zi zi zj zj zj i := fun i => ⟨rfl, rfl, rfl, rfl, rfl, rfl, rfl, fun _ => rfl, rfl⟩
  exact ⟨fun _ => vp_in_nI (n := 0) (by decide) (by decide), by decide, by decide, vp_in_nI (n := 0) (by decide) (by decide), vp_in_nI (n := 0) (by decide) (by decide), fun _ _ => rfl, fun _ => vp_in_nI (n := 0) (by decide) (by decide), q 0, q 1, q 2, fun n => absurd rfl n, 0, rfl, by decide, fun _ => rfl, fun i h => absurd h (by omega), fun i j _ h => absurd h (by omega)⟩
theorem pu_law {L : Nat} {xs : Nat → Int32} (hL : L ≤ 2560) : wp_La_law L xs := by
  simp only [wp_La_law, wp_Sc_init, wp_Co_init, wp_In_init, wp_Ma_init, wp_Pa_init, wp_Pr_init, wp_As_init, wp_Ga_init]
  refine pu_Ma_commitment ?_
  unfold wp_Mo_init
  refine pu_Mo_take ?_
  refine pu_Mo_commitment ?_
  refine ⟨513, ?_⟩
  have e := tk_0 13
  rw [show tk (fun _ => 0) (fun _ => 0) 13 = fun _ => 0 from e]
  exact lp_all (xs := xs) hL 513 0 rfl (by decide) 0 0 0 0 0 0 0 0 0 0 0 c0 0 0 0 b4 zi zi zi zi zi zi zi zi zi zi zi zi zi zi zi zi zi t0 zj zj zj zj zj t0 zj (fun _ => 0) (0, 0, 0, 0, 0, 0) (0, 0, 0, 0, 0, 0) (0, 0) (0, 0, 0, 0, 0, 0, 0, 0, 0) (0, 0, 0, 0, 0, 0, 0, 0, 0) (0, 0, 0, 0, 0, 0, 0, 0, 0) Iv_0
