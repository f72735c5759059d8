/-! the invariant of the law's loop -/
def Iv (gc cnt op asr stp : Int32) (ops rl c pto ch lo hi mf dl ru : Nat → Int32) (lc hc md : Nat → Int64) (g0 g1 g2 : ct_Ga) : Prop := (∀ i, vp_in (ops i) 14) ∧ ¬ cnt < 0 ∧ cnt ≤ 60 ∧ vp_in (rl 0) 16 ∧ vp_in (rl 4) 31 ∧ (∀ i, i < 8 → c i = rl (5 + i)) ∧ (∀ i, vp_in (pto i) 4) ∧ gq g0 ch lo hi mf dl ru lc hc md 0 ∧ gq g1 ch lo hi mf dl ru lc hc md 1 ∧ gq g2 ch lo hi mf dl ru lc hc md 2 ∧ (¬ op = 0 → vp_in asr 4 ∧ ∃ K, stp = nI K ∧ 1 ≤ K ∧ K ≤ 64) ∧ ∃ G, gc = nI G ∧ G ≤ 3 ∧ (op = 0 → G = 0) ∧ (∀ i, i < G → vp_in (ch i) 4 ∧ ¬ ch i = asr ∧ (∃ a b, lo i = nI a ∧ hi i = nI b ∧ a < b ∧ b ≤ 64) ∧ (¬ ru i = 0 → ¬ mf i = 0 → 1 < hi i - lo i)) ∧ (∀ i j, i < j → j < G → ¬ ch i = ch j)
theorem g_code {gc : Int32} {pot : Int32} {blk : Int32} {cnt : Int32} {op : Int32} {str : Int32} {asr : Int32} {stp : Int32} {wds : Int32} {at' : Int32} {thr : Int32} {base : Int64} {trc : Int64} {htr : Int64} {clm : Int64} {ops : Nat → Int32} {ag : Nat → Int32} {rl : Nat → Int32} {c : Nat → Int32} {pto : Nat → Int32} {ch : Nat → Int32} {lo : Nat → Int32} {hi : Nat → Int32} {mf : Nat → Int32} {dl : Nat → Int32} {ru : Nat → Int32} {lc : Nat → Int64} {hc : Nat → Int64} {md : Nat → Int64} {g0 : ct_Ga} {g1 : ct_Ga} {g2 : ct_Ga} {k1 : Int32} {k2 : Int32} {k3 : Int32} {Q : Int32 → (ct_Sc × (Nat → Int32) × (Nat → Int32) × ct_As) → Int32 → (ct_Mo × (Nat → Int32) × (Nat → Int32)) → Prop} (I : Iv gc cnt op asr stp ops rl c pto ch lo hi mf dl ru lc hc md g0 g1 g2) (hQ : ∀ (r : Int32) (ops' : Nat → Int32) (ag' : Nat → Int32), Iv gc cnt op asr stp ops' rl c pto ch lo hi mf dl ru lc hc md g0 g1 g2 → Q r ((gc, pot, blk, base), ops', ag', (op, str, asr, stp, wds, at', clm)) r ((0, str, pot, cnt, blk, trc, htr, base, op, asr, stp, wds, at', clm, gc), ops', ag')) : wp_Sc_code (fun r u => wp_Mo_code (fun r' u' => Q r u r' u') ((thr, str, pot, cnt, blk, trc, htr, base, op, asr, stp, wds, at', clm, gc), ops, ag) k1 k2 k3) ((gc, pot, blk, base), ops, ag, (op, str, asr, stp, wds, at', clm)) k1 k2 k3 := by
  have z := hQ 0 ops ag I
  by_cases h1 : k1 < 0
  · simpa [wp_Sc_code, wp_Mo_code, h1] using z
  by_cases h2 : 15 < k1
  · simpa [wp_Sc_code, wp_Mo_code, h1, i16_15, h2] using z
  by_cases h3 : k2 < 0
  · simpa [wp_Sc_code, wp_Mo_code, h1, i16_15, h2, h3] using z
  by_cases h4 : 13 < k2
  · simpa [wp_Sc_code, wp_Mo_code, h1, i16_15, h2, h3, h4] using z
  have hv : vp_in k1 16 := i_in2 (M := 15) (by decide) h1 h2
  by_cases h5 : str = 0
  · have I' : Iv gc cnt op asr stp (upd ops k1.toNatClampNeg k2) rl c pto ch lo hi mf dl ru lc hc md g0 g1 g2 := by
      refine ⟨fun i => ?_, I.2⟩
      by_cases q : i = k1.toNatClampNeg
      · rw [q, pk_us]; exact i_in2 (M := 13) (by decide) h3 h4
      · rw [up_ne q]; exact I.1 i
    simpa [wp_Sc_code, wp_Mo_code, h1, i16_15, h2, h3, h4, hv, h5] using (hQ 1 (upd ops k1.toNatClampNeg k2) (upd ag k1.toNatClampNeg k3) I')
  · simpa [wp_Sc_code, wp_Mo_code, h1, i16_15, h2, h3, h4, hv, h5] using z
theorem g_deposit {gc : Int32} {pot : Int32} {blk : Int32} {cnt : Int32} {op : Int32} {str : Int32} {asr : Int32} {stp : Int32} {wds : Int32} {at' : Int32} {thr : Int32} {base : Int64} {trc : Int64} {htr : Int64} {clm : Int64} {b : Nat → Int32} {ops : Nat → Int32} {ws : Nat → Int32} {rl : Nat → Int32} {c : Nat → Int32} {pto : Nat → Int32} {ch : Nat → Int32} {lo : Nat → Int32} {hi : Nat → Int32} {mf : Nat → Int32} {dl : Nat → Int32} {ru : Nat → Int32} {lc : Nat → Int64} {hc : Nat → Int64} {md : Nat → Int64} {out : Nat → Int64} {g0 : ct_Ga} {g1 : ct_Ga} {g2 : ct_Ga} {k1 : Int32} {k2 : Int32} {Q : Int32 → (ct_Sc × (Nat → Int32) × ct_In × (Nat → Int32) × (Nat → Int64)) → Int32 → (ct_Mo × (Nat → Int32) × (Nat → Int32)) → Prop} (I : Iv gc cnt op asr stp ops rl c pto ch lo hi mf dl ru lc hc md g0 g1 g2) (hQ : ∀ (t : Int32) (r : Int32) (pot' : Int32) (cnt' : Int32) (b' : Nat → Int32) (ws' : Nat → Int32) (out' : Nat → Int64), (t = 0 → out' 0 = r.toInt64) → Iv gc cnt' op asr stp ops rl c pto ch lo hi mf dl ru lc hc md g0 g1 g2 → Q t ((gc, pot', blk, base), b', cnt', ws', out') r ((t, str, pot', cnt', blk, trc, htr, base, op, asr, stp, wds, at', clm, gc), b', ws')) : wp_La_deposit (fun r u => wp_Mo_deposit (fun r' u' => Q r u r' u') ((thr, str, pot, cnt, blk, trc, htr, base, op, asr, stp, wds, at', clm, gc), b, ws) k1 k2) (fun _ _ => False) ((gc, pot, blk, base), b, cnt, ws, out) k1 k2 := by
  have z := fun t (ht : ¬ t = (0 : Int32)) => hQ t 0 pot cnt b ws out (fun h => absurd h ht) I
  obtain ⟨m, hm, em⟩ := nI_of2 (M := 60) (n := 60) (by decide) I.2.1 I.2.2.1
  subst em
  unfold wp_La_deposit wp_Sc_deposit
  refine st_req (fun h => Or.inl ⟨rfl, st_misP (fun _ => ⟨fun _ => z 1 (by decide), fun h => absurd rfl h⟩) (fun h2 => absurd h2 h)⟩) (fun hk => ?_)
  refine ⟨fun e1 => ⟨hk, fun e2 => Or.inr (Or.inr ⟨rfl, ?_⟩), fun e2 => ⟨fun e3 => ?_, fun e3 => Or.inr (Or.inr ⟨rfl, ?_⟩)⟩⟩, fun e1 => Or.inr (Or.inl ⟨rfl, ?_⟩)⟩
  · exact st_misP (fun h2 => absurd hk h2) (fun _ => ⟨fun h => absurd h (by decide), fun _ => ⟨fun _ => ⟨hk, fun _ => z 3 (by decide), fun h => absurd e2 h⟩, fun h => absurd e1 h⟩⟩)
  · have m57 : m ≤ 57 := by
      rw [show (60 : Int32) = nI 60 from rfl, pk_sub hm] at e3
      have := (nI_leI (a := 3) (by decide) (by omega)).mp e3
      omega
    have I' : Iv gc (nI (m + 3)) op asr stp ops rl c pto ch lo hi mf dl ru lc hc md g0 g1 g2 := ⟨I.1, nI_pos (by omega), nI_le (b := 60) (by omega) (by decide), I.2.2.2⟩
    refine ⟨hk, fun f1 ef1 => ⟨hk, fun f2 ef2 => ?_⟩⟩
    subst ef1; subst ef2
    refine ⟨fun h => absurd h (nI_ge (b := 60) (by omega) (by decide)), fun _ => ⟨vp_in_nI (by omega) (by decide), fun a1 ea1 => ?_⟩⟩
    have ea1 : a1 = nI (m + 1) := by rw [ea1, nI_1]
    subst ea1
    refine ⟨fun h => absurd h (nI_ge (b := 60) (by omega) (by decide)), fun _ => ⟨vp_in_nI (by omega) (by decide), fun a1 ea1 => ?_⟩⟩
    have ea1 : a1 = nI (m + 2) := by rw [ea1, nI_1]
    subst ea1
    refine ⟨fun h => absurd h (nI_ge (b := 60) (by omega) (by decide)), fun _ => ⟨vp_in_nI (by omega) (by decide), fun a1 ea1 => ?_⟩⟩
    have ea1 : a1 = nI (m + 3) := by rw [ea1, nI_1]
    subst ea1
    intro f4 ef4
    refine st_misP (fun h2 => absurd hk h2) (fun _ => ⟨fun h => absurd h (by decide), fun _ => ⟨fun _ => ⟨hk, fun h => absurd h e2, fun _ => ⟨fun _ => ⟨hk, fun f1 ef1 => ⟨hk, fun f2 ef2 => ?_⟩⟩, fun h => absurd (nI_le (b := 57) m57 (by decide)) h⟩⟩, fun h => absurd e1 h⟩⟩)
    subst ef1; subst ef2
    refine ⟨vp_in_nI (by omega) (by decide), fun a1 ea1 => ?_⟩
    have ea1 : a1 = nI (m + 1) := by rw [ea1, nI_1]
    subst ea1
    refine ⟨vp_in_nI (by omega) (by decide), fun a1 ea1 => ?_⟩
    have ea1 : a1 = nI (m + 2) := by rw [ea1, nI_1]
    subst ea1
    refine ⟨vp_in_nI (by omega) (by decide), fun a1 ea1 => ?_⟩
    have ea1 : a1 = nI (m + 3) := by rw [ea1, nI_1]
    subst ea1
    exact hQ 0 _ _ _ _ _ _ (fun _ => (upL _ _ _).trans ef4) I'
  · have m57 : ¬ m ≤ 57 := by
      intro q
      refine e3 ?_
      rw [show (60 : Int32) = nI 60 from rfl, pk_sub hm]
      exact (nI_leI (a := 3) (by decide) (by omega)).mpr (by omega)
    have m57' : ¬ nI m ≤ 57 := nI_ge (a := 57) (by omega) (by omega)
    exact st_misP (fun h2 => absurd hk h2) (fun _ => ⟨fun h => absurd h (by decide), fun _ => ⟨fun _ => ⟨hk, fun h => absurd h e2, fun _ => ⟨fun h => absurd h m57', fun _ => z 3 (by decide)⟩⟩, fun h => absurd e1 h⟩⟩)
  · exact st_misP (fun h2 => absurd hk h2) (fun _ => ⟨fun h => absurd h (by decide), fun _ => ⟨fun h => absurd h e1, fun _ => z 2 (by decide)⟩⟩)
theorem g_send {gc : Int32} {pot : Int32} {blk : Int32} {cnt : Int32} {op : Int32} {str : Int32} {asr : Int32} {stp : Int32} {wds : Int32} {at' : Int32} {thr : Int32} {base : Int64} {trc : Int64} {htr : Int64} {clm : Int64} {ops : Nat → Int32} {ws : Nat → Int32} {rl : Nat → Int32} {c : Nat → Int32} {pto : Nat → Int32} {ch : Nat → Int32} {lo : Nat → Int32} {hi : Nat → Int32} {mf : Nat → Int32} {dl : Nat → Int32} {ru : Nat → Int32} {lc : Nat → Int64} {hc : Nat → Int64} {md : Nat → Int64} {out : Nat → Int64} {g0 : ct_Ga} {g1 : ct_Ga} {g2 : ct_Ga} {k1 : Int32} {Q : Int32 → (ct_Sc × ct_In × (Nat → Int32) × (Nat → Int64)) → Int32 → (ct_Mo × (Nat → Int32)) → Prop} (I : Iv gc cnt op asr stp ops rl c pto ch lo hi mf dl ru lc hc md g0 g1 g2) (hQ : ∀ (t : Int32) (r : Int32) (cnt' : Int32) (ws' : Nat → Int32) (out' : Nat → Int64), (t = 0 → out' 0 = r.toInt64) → Iv gc cnt' op asr stp ops rl c pto ch lo hi mf dl ru lc hc md g0 g1 g2 → Q t ((gc, pot, blk, base), cnt', ws', out') r ((t, str, pot, cnt', blk, trc, htr, base, op, asr, stp, wds, at', clm, gc), ws')) : wp_La_send (fun r u => wp_Mo_send (fun r' u' => Q r u r' u') ((thr, str, pot, cnt, blk, trc, htr, base, op, asr, stp, wds, at', clm, gc), ws) k1) (fun _ _ => False) ((gc, pot, blk, base), cnt, ws, out) k1 := by
  have z := fun t (ht : ¬ t = (0 : Int32)) => hQ t 0 cnt ws out (fun h => absurd h ht) I
  obtain ⟨m, hm, em⟩ := nI_of2 (M := 60) (n := 60) (by decide) I.2.1 I.2.2.1
  subst em
  unfold wp_La_send wp_Sc_send wp_In_room
  rw [show (60 : Int32) = nI 60 from rfl, pk_sub hm]
  refine ⟨fun e => ?_, fun e => ⟨rfl, ?_⟩⟩
  · have m1 : m < 60 := by
      have := (nI_leI (a := 1) (by decide) (by omega)).mp e
      omega
    have I' : Iv gc (nI (m + 1)) op asr stp ops rl c pto ch lo hi mf dl ru lc hc md g0 g1 g2 := ⟨I.1, nI_pos (by omega), nI_le (b := 60) (by omega) (by decide), I.2.2.2⟩
    refine ⟨fun h => absurd h (nI_ge (b := 60) (by omega) (by decide)), fun _ => ⟨vp_in_nI (by omega) (by decide), fun a1 ea1 => ?_⟩⟩
    have ea1 : a1 = nI (m + 1) := by rw [ea1, nI_1]
    subst ea1
    intro f4 ef4
    refine ⟨fun h => absurd ((nI_eq (a := m) (b := 60) (by omega) (by decide)).mp h) (by omega), fun _ => ⟨vp_in_nI (by omega) (by decide), fun a1 ea1 => ?_⟩⟩
    have ea1 : a1 = nI (m + 1) := by rw [ea1, nI_1]
    subst ea1
    exact hQ 0 _ _ _ _ (fun _ => (upL _ _ _).trans ef4) I'
  · have m1 : m = 60 := by
      have : ¬ 1 ≤ 60 - m := fun q => e ((nI_leI (a := 1) (by decide) (by omega)).mpr q)
      omega
    subst m1
    exact ⟨fun _ => z 1 (by decide), fun h => absurd rfl h⟩
theorem g_balance {gc : Int32} {pot : Int32} {blk : Int32} {cnt : Int32} {op : Int32} {str : Int32} {asr : Int32} {stp : Int32} {wds : Int32} {at' : Int32} {thr : Int32} {base : Int64} {trc : Int64} {htr : Int64} {clm : Int64} {b : Nat → Int32} {ops : Nat → Int32} {rl : Nat → Int32} {c : Nat → Int32} {pto : Nat → Int32} {ch : Nat → Int32} {lo : Nat → Int32} {hi : Nat → Int32} {mf : Nat → Int32} {dl : Nat → Int32} {ru : Nat → Int32} {lc : Nat → Int64} {hc : Nat → Int64} {md : Nat → Int64} {g0 : ct_Ga} {g1 : ct_Ga} {g2 : ct_Ga} {k1 : Int32} {Q : Int32 → (ct_Sc × (Nat → Int32)) → Int32 → (ct_Mo × (Nat → Int32)) → Prop} (I : Iv gc cnt op asr stp ops rl c pto ch lo hi mf dl ru lc hc md g0 g1 g2) (hQ : ∀ (r : Int32) , Iv gc cnt op asr stp ops rl c pto ch lo hi mf dl ru lc hc md g0 g1 g2 → Q r ((gc, pot, blk, base), b) r ((0, str, pot, cnt, blk, trc, htr, base, op, asr, stp, wds, at', clm, gc), b)) : wp_Sc_balance (fun r u => wp_Mo_balance (fun r' u' => Q r u r' u') ((thr, str, pot, cnt, blk, trc, htr, base, op, asr, stp, wds, at', clm, gc), b) k1) ((gc, pot, blk, base), b) k1 := by
  refine st_isP (fun h => ⟨fun _ => ?_, fun h => absurd rfl h⟩) (fun h => ⟨fun h => absurd h (by decide), fun _ => ⟨h, ?_⟩⟩)
  · exact st_misP (fun _ => ⟨fun _ => hQ _ I, fun h => absurd rfl h⟩) (fun h2 => absurd h2 h)
  · exact st_misP (fun h2 => absurd h h2) (fun _ => ⟨fun h => absurd h (by decide), fun _ => ⟨h, hQ _ I⟩⟩)
theorem g_word {gc : Int32} {pot : Int32} {blk : Int32} {cnt : Int32} {op : Int32} {str : Int32} {asr : Int32} {stp : Int32} {wds : Int32} {at' : Int32} {thr : Int32} {base : Int64} {trc : Int64} {htr : Int64} {clm : Int64} {ops : Nat → Int32} {ws : Nat → Int32} {rl : Nat → Int32} {c : Nat → Int32} {pto : Nat → Int32} {ch : Nat → Int32} {lo : Nat → Int32} {hi : Nat → Int32} {mf : Nat → Int32} {dl : Nat → Int32} {ru : Nat → Int32} {lc : Nat → Int64} {hc : Nat → Int64} {md : Nat → Int64} {g0 : ct_Ga} {g1 : ct_Ga} {g2 : ct_Ga} {k1 : Int32} {Q : Int32 → (ct_Sc × ct_In × (Nat → Int32)) → Int32 → (ct_Mo × (Nat → Int32)) → Prop} (I : Iv gc cnt op asr stp ops rl c pto ch lo hi mf dl ru lc hc md g0 g1 g2) (hQ : ∀ (r : Int32) , Iv gc cnt op asr stp ops rl c pto ch lo hi mf dl ru lc hc md g0 g1 g2 → Q r ((gc, pot, blk, base), cnt, ws) r ((0, str, pot, cnt, blk, trc, htr, base, op, asr, stp, wds, at', clm, gc), ws)) : wp_Sc_word (fun r u => wp_Mo_word (fun r' u' => Q r u r' u') ((thr, str, pot, cnt, blk, trc, htr, base, op, asr, stp, wds, at', clm, gc), ws) k1) ((gc, pot, blk, base), cnt, ws) k1 := by
  exact st_at I.2.2.1 (st_wordAt I.2.2.1 (hQ _ I))
theorem g_pot {gc : Int32} {pot : Int32} {blk : Int32} {cnt : Int32} {op : Int32} {str : Int32} {asr : Int32} {stp : Int32} {wds : Int32} {at' : Int32} {thr : Int32} {base : Int64} {trc : Int64} {htr : Int64} {clm : Int64} {ops : Nat → Int32} {rl : Nat → Int32} {c : Nat → Int32} {pto : Nat → Int32} {ch : Nat → Int32} {lo : Nat → Int32} {hi : Nat → Int32} {mf : Nat → Int32} {dl : Nat → Int32} {ru : Nat → Int32} {lc : Nat → Int64} {hc : Nat → Int64} {md : Nat → Int64} {g0 : ct_Ga} {g1 : ct_Ga} {g2 : ct_Ga}  {Q : Int32 → (ct_Sc) → Int32 → (ct_Mo) → Prop} (I : Iv gc cnt op asr stp ops rl c pto ch lo hi mf dl ru lc hc md g0 g1 g2) (hQ : ∀ (r : Int32) , Iv gc cnt op asr stp ops rl c pto ch lo hi mf dl ru lc hc md g0 g1 g2 → Q r (gc, pot, blk, base) r (0, str, pot, cnt, blk, trc, htr, base, op, asr, stp, wds, at', clm, gc)) : wp_Sc_pot (fun r u => wp_Mo_pot (fun r' u' => Q r u r' u') (thr, str, pot, cnt, blk, trc, htr, base, op, asr, stp, wds, at', clm, gc)) (gc, pot, blk, base) := by
  exact hQ _ I
theorem g_base {gc : Int32} {pot : Int32} {blk : Int32} {cnt : Int32} {op : Int32} {str : Int32} {asr : Int32} {stp : Int32} {wds : Int32} {at' : Int32} {thr : Int32} {base : Int64} {trc : Int64} {htr : Int64} {clm : Int64} {ops : Nat → Int32} {rl : Nat → Int32} {c : Nat → Int32} {pto : Nat → Int32} {ch : Nat → Int32} {lo : Nat → Int32} {hi : Nat → Int32} {mf : Nat → Int32} {dl : Nat → Int32} {ru : Nat → Int32} {lc : Nat → Int64} {hc : Nat → Int64} {md : Nat → Int64} {g0 : ct_Ga} {g1 : ct_Ga} {g2 : ct_Ga}  {Q : Int64 → (ct_Sc) → Int64 → (ct_Mo) → Prop} (I : Iv gc cnt op asr stp ops rl c pto ch lo hi mf dl ru lc hc md g0 g1 g2) (hQ : ∀ (r : Int64) , Iv gc cnt op asr stp ops rl c pto ch lo hi mf dl ru lc hc md g0 g1 g2 → Q r (gc, pot, blk, base) r (0, str, pot, cnt, blk, trc, htr, base, op, asr, stp, wds, at', clm, gc)) : wp_Sc_base (fun r u => wp_Mo_base (fun r' u' => Q r u r' u') (thr, str, pot, cnt, blk, trc, htr, base, op, asr, stp, wds, at', clm, gc)) (gc, pot, blk, base) := by
  exact hQ _ I
theorem g_truth {gc : Int32} {pot : Int32} {blk : Int32} {cnt : Int32} {op : Int32} {str : Int32} {asr : Int32} {stp : Int32} {wds : Int32} {at' : Int32} {thr : Int32} {base : Int64} {trc : Int64} {htr : Int64} {clm : Int64} {ops : Nat → Int32} {ag : Nat → Int32} {ws : Nat → Int32} {rl : Nat → Int32} {hd : Nat → Int32} {c : Nat → Int32} {sc : Nat → Int32} {pto : Nat → Int32} {ch : Nat → Int32} {lo : Nat → Int32} {hi : Nat → Int32} {mf : Nat → Int32} {dl : Nat → Int32} {ru : Nat → Int32} {st : Nat → Int64} {lc : Nat → Int64} {hc : Nat → Int64} {md : Nat → Int64} {mt : Nat → Int64} {sm : ct_Ma} {g0 : ct_Ga} {g1 : ct_Ga} {g2 : ct_Ga} {k1 : Int32} {Q : Int64 → (ct_Sc × (Nat → Int32) × (Nat → Int32) × ct_In × (Nat → Int32) × ct_Ma × (Nat → Int32) × ct_Ma × (Nat → Int32) × (Nat → Int64) × ct_As) → Int64 → (ct_Mo × (Nat → Int32) × (Nat → Int32) × (Nat → Int32) × (Nat → Int32) × (Nat → Int32) × (Nat → Int64)) → Prop} (I : Iv gc cnt op asr stp ops rl c pto ch lo hi mf dl ru lc hc md g0 g1 g2) (hQ : ∀ (r : Int64) (htr' : Int64) (hd' : Nat → Int32) (mt' : Nat → Int64) (sm' : ct_Ma) (sc' : Nat → Int32) (st' : Nat → Int64), Iv gc cnt op asr stp ops rl c pto ch lo hi mf dl ru lc hc md g0 g1 g2 → Q r ((gc, pot, blk, base), ops, ag, cnt, ws, mm rl trc, c, sm', sc', st', (op, str, asr, stp, wds, at', clm)) r ((0, str, pot, cnt, blk, trc, htr', base, op, asr, stp, wds, at', clm, gc), ops, ag, ws, rl, hd', mt')) : wp_Sc_truth (fun r u => wp_Mo_truth (fun r' u' => Q r u r' u') ((thr, str, pot, cnt, blk, trc, htr, base, op, asr, stp, wds, at', clm, gc), ops, ag, ws, rl, hd, mt) k1) ((gc, pot, blk, base), ops, ag, cnt, ws, mm rl trc, c, sm, sc, st, (op, str, asr, stp, wds, at', clm)) k1 := by
  refine ⟨fun e => ?_, fun e => ⟨fun e2 => ?_, fun e2 => ?_⟩⟩
  · exact ⟨fun _ => hQ _ htr hd mt sm sc st I, fun h => absurd e h⟩
  · obtain ⟨K, hK, rfl⟩ := nI_of2 (M := 64) (n := 64) (by decide) e e2
    refine st_tc hd (by omega) I.1 I.2.2.1 I.2.2.2.1 I.2.2.2.2.2.1 _ rfl (fun sm' sc' st' => ?_)
    refine ⟨fun h => absurd h e, fun _ => ⟨fun _ => ?_, fun h => absurd e2 h⟩⟩
    exact st_mtc (by omega) I.1 I.2.2.1 I.2.2.2.1 _ rfl (fun t' hd' mt' => hQ _ t' hd' mt' sm' sc' st' I)
  · exact ⟨fun h => absurd h e, fun _ => ⟨fun h => absurd h e2, fun _ => hQ _ htr hd mt sm sc st I⟩⟩
theorem g_claim {gc : Int32} {pot : Int32} {blk : Int32} {cnt : Int32} {op : Int32} {str : Int32} {asr : Int32} {stp : Int32} {wds : Int32} {at' : Int32} {thr : Int32} {base : Int64} {trc : Int64} {htr : Int64} {clm : Int64} {b : Nat → Int32} {ops : Nat → Int32} {ag : Nat → Int32} {ws : Nat → Int32} {rl : Nat → Int32} {hd : Nat → Int32} {c : Nat → Int32} {sc : Nat → Int32} {pto : Nat → Int32} {ch : Nat → Int32} {lo : Nat → Int32} {hi : Nat → Int32} {mf : Nat → Int32} {dl : Nat → Int32} {ru : Nat → Int32} {st : Nat → Int64} {lc : Nat → Int64} {hc : Nat → Int64} {md : Nat → Int64} {mt : Nat → Int64} {out : Nat → Int64} {sm : ct_Ma} {g0 : ct_Ga} {g1 : ct_Ga} {g2 : ct_Ga} {k1 : Int32} {k2 : Int32} {k3 : Int64} {Q : Int32 → (ct_Sc × (Nat → Int32) × (Nat → Int32) × (Nat → Int32) × ct_In × (Nat → Int32) × ct_Ma × (Nat → Int32) × ct_Ma × (Nat → Int32) × (Nat → Int64) × ct_As × (Nat → Int64)) → Int64 → (ct_Mo × (Nat → Int32) × (Nat → Int32) × (Nat → Int32) × (Nat → Int32) × (Nat → Int32) × (Nat → Int32) × (Nat → Int64)) → Prop} (I : Iv gc cnt op asr stp ops rl c pto ch lo hi mf dl ru lc hc md g0 g1 g2) (hQ : ∀ (t : Int32) (r : Int64) (b' : Nat → Int32) (htr' : Int64) (hd' : Nat → Int32) (mt' : Nat → Int64) (sm' : ct_Ma) (sc' : Nat → Int32) (st' : Nat → Int64) (op' : Int32) (str' : Int32) (asr' : Int32) (stp' : Int32) (wds' : Int32) (at'' : Int32) (clm' : Int64) (out' : Nat → Int64), (t = 0 → out' 0 = r) → Iv gc cnt op' asr' stp' ops rl c pto ch lo hi mf dl ru lc hc md g0 g1 g2 → Q t ((gc, pot, blk, base), b', ops, ag, cnt, ws, mm rl trc, c, sm', sc', st', (op', str', asr', stp', wds', at'', clm'), out') r ((t, str', pot, cnt, blk, trc, htr', base, op', asr', stp', wds', at'', clm', gc), ops, ag, b', ws, rl, hd', mt')) : wp_La_claim (fun r u => wp_Mo_claim (fun r' u' => Q r u r' u') ((thr, str, pot, cnt, blk, trc, htr, base, op, asr, stp, wds, at', clm, gc), ops, ag, b, ws, rl, hd, mt) k1 k2 k3) (fun _ _ => False) ((gc, pot, blk, base), b, ops, ag, cnt, ws, mm rl trc, c, sm, sc, st, (op, str, asr, stp, wds, at', clm), out) k1 k2 k3 := by
  have z := fun t (ht : ¬ t = (0 : Int32)) => hQ t 0 b htr hd mt sm sc st op str asr stp wds at' clm out (fun h => absurd h ht) I
  unfold wp_La_claim wp_Sc_claim
  refine st_req (fun h => Or.inl ⟨rfl, st_misP (fun _ => ⟨fun _ => z 1 (by decide), fun h => absurd rfl h⟩) (fun h2 => absurd h2 h)⟩) (fun hq => ⟨fun e => ⟨fun e2 => Or.inr (Or.inr (Or.inl ⟨rfl, ?_⟩)), fun e2 => ⟨fun e3 => ⟨hq, fun e4 => ?_, fun e4 => Or.inr (Or.inr (Or.inr ⟨rfl, ?_⟩))⟩, fun e3 => Or.inr (Or.inr (Or.inl ⟨rfl, ?_⟩))⟩⟩, fun e => Or.inr (Or.inl ⟨rfl, ?_⟩)⟩)
  · exact st_misP (fun h2 => absurd hq h2) (fun _ => ⟨fun h => absurd h (by decide), fun _ => ⟨fun _ => ⟨fun _ => z 3 (by decide), fun h => absurd e2 h⟩, fun h => absurd e h⟩⟩)
  · refine ⟨hq, fun f ef => ⟨hq, ?_⟩⟩
    subst ef
    obtain ⟨K, hK, rfl⟩ := nI_of2 (M := 64) (n := 64) (by decide) (i_n1 e2) e3
    have K1 : 1 ≤ K := by
      rcases (show K = 0 ∨ 1 ≤ K by omega) with q | q
      · subst q; exact absurd (by decide) e2
      · exact q
    obtain ⟨G, gG, G3, G0, -⟩ := I.2.2.2.2.2.2.2.2.2.2.2
    have g0' : G = 0 := G0 e
    subst g0'
    have I' : Iv gc cnt 1 k1 (nI K) ops rl c pto ch lo hi mf dl ru lc hc md g0 g1 g2 := ⟨I.1, I.2.1, I.2.2.1, I.2.2.2.1, I.2.2.2.2.1, I.2.2.2.2.2.1, I.2.2.2.2.2.2.1, I.2.2.2.2.2.2.2.1, I.2.2.2.2.2.2.2.2.1, I.2.2.2.2.2.2.2.2.2.1, fun _ => ⟨hq, K, rfl, K1, hK⟩, 0, gG, by omega, fun _ => rfl, fun i hi => absurd hi (by omega), fun i j _ hj => absurd hj (by omega)⟩
    have gz : gc = 0 := gG
    subst gz
    unfold wp_As_open
    refine st_tc (K := K) hd (by omega) I.1 I.2.2.1 I.2.2.2.1 I.2.2.2.2.2.1 cnt ?_ (fun sm' sc' st' => ?_)
    · show cnt = if (1 : Int32) = 0 then cnt else cnt
      simp
    intro f14 e14
    refine st_misP (fun h2 => absurd hq h2) (fun _ => ⟨fun h => absurd h (by decide), fun _ => ⟨fun _ => ⟨fun h => absurd h e2, fun _ => ⟨fun _ => ⟨hq, fun _ => ?_, fun h => absurd e4 h⟩, fun h => absurd e3 h⟩⟩, fun h => absurd e h⟩⟩)
    refine st_mtc (K := K) (by omega) I.1 I.2.2.1 I.2.2.2.1 cnt (by rw [if_pos e]) (fun t' hd' mt' => ?_)
    intro f13 e13
    have ee : f13 = f14 := e13.trans e14.symm
    clear e13 e14
    subst ee
    refine ⟨hq, fun f15 e15 => ⟨hq, ?_⟩⟩
    subst e15
    exact hQ 0 f13 _ t' hd' mt' sm' sc' st' 1 1 k1 (nI K) cnt blk f13 _ (fun _ => upL _ _ _) I'
  · exact st_misP (fun h2 => absurd hq h2) (fun _ => ⟨fun h => absurd h (by decide), fun _ => ⟨fun _ => ⟨fun h => absurd h e2, fun _ => ⟨fun _ => ⟨hq, fun h => absurd h e4, fun _ => z 4 (by decide)⟩, fun h => absurd e3 h⟩⟩, fun h => absurd e h⟩⟩)
  · exact st_misP (fun h2 => absurd hq h2) (fun _ => ⟨fun h => absurd h (by decide), fun _ => ⟨fun _ => ⟨fun h => absurd h e2, fun _ => ⟨fun h => absurd h e3, fun _ => z 3 (by decide)⟩⟩, fun h => absurd e h⟩⟩)
  · exact st_misP (fun h2 => absurd hq h2) (fun _ => ⟨fun h => absurd h (by decide), fun _ => ⟨fun h => absurd h e, fun _ => z 2 (by decide)⟩⟩)
theorem g_draw {gc : Int32} {pot : Int32} {blk : Int32} {cnt : Int32} {op : Int32} {str : Int32} {asr : Int32} {stp : Int32} {wds : Int32} {at' : Int32} {thr : Int32} {base : Int64} {trc : Int64} {htr : Int64} {clm : Int64} {b : Nat → Int32} {ops : Nat → Int32} {rl : Nat → Int32} {hd : Nat → Int32} {c : Nat → Int32} {pto : Nat → Int32} {pam : Nat → Int32} {drn : Nat → Int32} {ch : Nat → Int32} {lo : Nat → Int32} {hi : Nat → Int32} {mf : Nat → Int32} {dl : Nat → Int32} {ru : Nat → Int32} {t1 : Nat → Int64} {lc : Nat → Int64} {hc : Nat → Int64} {md : Nat → Int64} {mt : Nat → Int64} {out : Nat → Int64} {g0 : ct_Ga} {g1 : ct_Ga} {g2 : ct_Ga} {k : Int32} {Q : Int32 → (ct_Sc × (Nat → Int32) × ct_Ma × (Nat → Int32) × (Nat → Int64) × ct_Pa × (Nat → Int32) × (Nat → Int32) × (Nat → Int32) × (Nat → Int64)) → Int32 → (ct_Mo × (Nat → Int32) × (Nat → Int32) × (Nat → Int32) × (Nat → Int32) × (Nat → Int32) × (Nat → Int32) × (Nat → Int64)) → Prop} (I : Iv gc cnt op asr stp ops rl c pto ch lo hi mf dl ru lc hc md g0 g1 g2) (hQ : ∀ (t : Int32) (r : Int32) (pot' : Int32) (b' : Nat → Int32) (t1' : Nat → Int64) (drn' : Nat → Int32) (htr' : Int64) (hd' : Nat → Int32) (mt' : Nat → Int64) (out' : Nat → Int64), (t = 0 → out' 0 = r.toInt64) → Iv gc cnt op asr stp ops rl c pto ch lo hi mf dl ru lc hc md g0 g1 g2 → Q t ((gc, pot', blk, base), b', mm rl trc, c, t1', rl 4, pto, pam, drn', out') r ((t, str, pot', cnt, blk, trc, htr', base, op, asr, stp, wds, at', clm, gc), b', rl, hd', pto, pam, drn', mt')) : wp_La_draw (fun r u => wp_Mo_draw (fun r' u' => Q r u r' u') ((thr, str, pot, cnt, blk, trc, htr, base, op, asr, stp, wds, at', clm, gc), b, rl, hd, pto, pam, drn, mt) k) (fun _ _ => False) ((gc, pot, blk, base), b, mm rl trc, c, t1, rl 4, pto, pam, drn, out) k := by
  have z := fun t htr' hd' mt' t1' (ht : ¬ t = (0 : Int32)) => hQ t 0 pot b t1' drn htr' hd' mt' out (fun h => absurd h ht) I
  obtain ⟨V, hV⟩ : ∃ V, V = cv (hk rl hd) trc := ⟨_, rfl⟩
  unfold wp_La_draw
  refine st_draw hd V hV I.2.2.2.2.1 I.2.2.2.2.2.1 I.2.2.2.2.2.2.1 (fun h => Or.inl ⟨rfl, ?_⟩) (fun h1 h2 h3 => Or.inr (Or.inl ⟨rfl, ?_⟩)) (fun h1 h2 h3 h4 t' => Or.inr (Or.inl ⟨rfl, ?_⟩)) (fun h1 h2 h3 h4 h5 t' => Or.inr (Or.inr (Or.inl ⟨rfl, ?_⟩))) (fun h1 h2 h3 h4 h5 h6 t' => Or.inr (Or.inr (Or.inr ⟨rfl, ?_⟩))) (fun h1 h2 h3 h4 h5 h6 t' => ?_)
  · exact st_mdraw V hV I.2.2.2.2.1 I.2.2.2.2.2.2.1 (fun _ => z 1 htr hd mt t1 (by decide)) (fun a b => absurd h (fun h => h.elim a (fun q => q b))) (fun a b => absurd h (fun h => h.elim a (fun q => q b))) (fun a b => absurd h (fun h => h.elim a (fun q => q b))) (fun a b => absurd h (fun h => h.elim a (fun q => q b))) (fun a b => absurd h (fun h => h.elim a (fun q => q b)))
  · exact st_mdraw V hV I.2.2.2.2.1 I.2.2.2.2.2.2.1 (fun h => absurd h (fun h => h.elim h1 (fun q => q h2))) (fun _ _ _ => z 2 htr hd mt t1 (by decide)) (fun _ _ q => absurd q h3) (fun _ _ q => absurd q h3) (fun _ _ q => absurd q h3) (fun _ _ q => absurd q h3)
  · exact st_mdraw V hV I.2.2.2.2.1 I.2.2.2.2.2.2.1 (fun h => absurd h (fun h => h.elim h1 (fun q => q h2))) (fun _ _ q => absurd h3 q) (fun _ _ _ _ m' => z 2 trc (hk rl hd) m' t' (by decide)) (fun _ _ _ q => absurd q h4) (fun _ _ _ q => absurd q h4) (fun _ _ _ q => absurd q h4)
  · exact st_mdraw V hV I.2.2.2.2.1 I.2.2.2.2.2.2.1 (fun h => absurd h (fun h => h.elim h1 (fun q => q h2))) (fun _ _ q => absurd h3 q) (fun _ _ _ q => absurd h4 q) (fun _ _ _ _ _ m' => z 3 trc (hk rl hd) m' t' (by decide)) (fun _ _ _ _ q => absurd q h5) (fun _ _ _ _ q => absurd q h5)
  · exact st_mdraw V hV I.2.2.2.2.1 I.2.2.2.2.2.2.1 (fun h => absurd h (fun h => h.elim h1 (fun q => q h2))) (fun _ _ q => absurd h3 q) (fun _ _ _ q => absurd h4 q) (fun _ _ _ _ q => absurd h5 q) (fun _ _ _ _ _ _ m' => z 4 trc (hk rl hd) m' t' (by decide)) (fun _ _ _ _ _ q => absurd q h6)
  · intro f ef
    exact st_mdraw V hV I.2.2.2.2.1 I.2.2.2.2.2.2.1 (fun h => absurd h (fun h => h.elim h1 (fun q => q h2))) (fun _ _ q => absurd h3 q) (fun _ _ _ q => absurd h4 q) (fun _ _ _ _ q => absurd h5 q) (fun _ _ _ _ _ q => absurd h6 q) (fun _ _ _ _ _ _ m' => hQ 0 _ _ _ t' _ trc (hk rl hd) m' _ (fun _ => (upL _ _ _).trans ef) I)
/-! games: the small facts -/
theorem pigN : ∀ a b c d e : Fin 4, a = b ∨ a = c ∨ a = d ∨ a = e ∨ b = c ∨ b = d ∨ b = e ∨ c = d ∨ c = e ∨ d = e := by decide +kernel
theorem pig4 {a b c d e : Int32} (ha : vp_in a 4) (hb : vp_in b 4) (hc : vp_in c 4) (hd : vp_in d 4) (he : vp_in e 4) (ab : ¬ a = b) (ac : ¬ a = c) (ad : ¬ a = d) (ae : ¬ a = e) (bc : ¬ b = c) (bd : ¬ b = d) (be : ¬ b = e) (cd : ¬ c = d) (ce : ¬ c = e) (de : ¬ d = e) : False := by
  obtain ⟨a, a4, rfl⟩ := vp_in_of ha (by decide)
  obtain ⟨b, b4, rfl⟩ := vp_in_of hb (by decide)
  obtain ⟨c, c4, rfl⟩ := vp_in_of hc (by decide)
  obtain ⟨d, d4, rfl⟩ := vp_in_of hd (by decide)
  obtain ⟨e, e4, rfl⟩ := vp_in_of he (by decide)
  rcases pigN ⟨a, a4⟩ ⟨b, b4⟩ ⟨c, c4⟩ ⟨d, d4⟩ ⟨e, e4⟩ with h | h | h | h | h | h | h | h | h | h
  · exact ab (congrArg (fun x : Fin 4 => nI x.1) h)
  · exact ac (congrArg (fun x : Fin 4 => nI x.1) h)
  · exact ad (congrArg (fun x : Fin 4 => nI x.1) h)
  · exact ae (congrArg (fun x : Fin 4 => nI x.1) h)
  · exact bc (congrArg (fun x : Fin 4 => nI x.1) h)
  · exact bd (congrArg (fun x : Fin 4 => nI x.1) h)
  · exact be (congrArg (fun x : Fin 4 => nI x.1) h)
  · exact cd (congrArg (fun x : Fin 4 => nI x.1) h)
  · exact ce (congrArg (fun x : Fin 4 => nI x.1) h)
  · exact de (congrArg (fun x : Fin 4 => nI x.1) h)
theorem gq_new {g : ct_Ga} {ch lo hi mf dl ru : Nat → Int32} {lc hc md : Nat → Int64} {i G : Nat} {a l h f d r : Int32} {x y m : Int64} (q : gq g ch lo hi mf dl ru lc hc md i) : gq (if G = i then (a, l, h, x, y, m, f, d, r) else g) (upd ch G a) (upd lo G l) (upd hi G h) (upd mf G f) (upd dl G d) (upd ru G r) (vp_updL lc G x) (vp_updL hc G y) (vp_updL md G m) i := by
  by_cases e : G = i
  · subst e
    rw [if_pos rfl]
    exact ⟨pk_us.symm, pk_us.symm, pk_us.symm, pk_uLs.symm, pk_uLs.symm, pk_uLs.symm, pk_us.symm, fun _ => pk_us.symm, pk_us.symm⟩
  · have e' : i ≠ G := fun h => e h.symm
    rw [if_neg e]
    unfold gq
    rw [up_ne e', up_ne e', up_ne e', up_ne e', up_ne e', up_ne e', pk_uLn e', pk_uLn e', pk_uLn e']
    exact q
theorem gq_post {g : ct_Ga} {ch lo hi mf dl ru : Nat → Int32} {lc hc md : Nat → Int64} {i G : Nat} {d : Int32} {m : Int64} (q : gq g ch lo hi mf dl ru lc hc md i) : gq (if G = i then (g.1, g.2.1, g.2.2.1, g.2.2.2.1, g.2.2.2.2.1, m, 1, d, g.2.2.2.2.2.2.2.2) else g) ch lo hi (upd mf G 1) (upd dl G d) ru lc hc (vp_updL md G m) i := by
  by_cases e : G = i
  · subst e
    rw [if_pos rfl]
    exact ⟨q.1, q.2.1, q.2.2.1, q.2.2.2.1, q.2.2.2.2.1, pk_uLs.symm, pk_us.symm, fun _ => pk_us.symm, q.2.2.2.2.2.2.2.2⟩
  · have e' : i ≠ G := fun h => e h.symm
    rw [if_neg e]
    unfold gq
    rw [up_ne e', up_ne e', pk_uLn e']
    exact q
theorem gq_dl {g : ct_Ga} {ch lo hi mf dl ru : Nat → Int32} {lc hc md : Nat → Int64} {i G : Nat} {d : Int32} (q : gq g ch lo hi mf dl ru lc hc md i) : gq (if G = i then (g.1, g.2.1, g.2.2.1, g.2.2.2.1, g.2.2.2.2.1, g.2.2.2.2.2.1, g.2.2.2.2.2.2.1, d, g.2.2.2.2.2.2.2.2) else g) ch lo hi mf (upd dl G d) ru lc hc md i := by
  by_cases e : G = i
  · subst e
    rw [if_pos rfl]
    exact ⟨q.1, q.2.1, q.2.2.1, q.2.2.2.1, q.2.2.2.2.1, q.2.2.2.2.2.1, q.2.2.2.2.2.2.1, fun _ => pk_us.symm, q.2.2.2.2.2.2.2.2⟩
  · have e' : i ≠ G := fun h => e h.symm
    rw [if_neg e]
    unfold gq
    rw [up_ne e']
    exact q
theorem gq_end {g : ct_Ga} {ch lo hi mf dl ru : Nat → Int32} {lc hc md : Nat → Int64} {i G : Nat} {d : Int32} (q : gq g ch lo hi mf dl ru lc hc md i) : gq (if G = i then (g.1, g.2.1, g.2.2.1, g.2.2.2.1, g.2.2.2.2.1, g.2.2.2.2.2.1, g.2.2.2.2.2.2.1, d, 0) else g) ch lo hi mf dl (upd ru G 0) lc hc md i := by
  by_cases e : G = i
  · subst e
    rw [if_pos rfl]
    exact ⟨q.1, q.2.1, q.2.2.1, q.2.2.2.1, q.2.2.2.2.1, q.2.2.2.2.2.1, q.2.2.2.2.2.2.1, fun h => absurd pk_us h, pk_us.symm⟩
  · have e' : i ≠ G := fun h => e h.symm
    rw [if_neg e]
    unfold gq
    rw [up_ne e']
    exact q
theorem gq_run {g : ct_Ga} {ch lo hi mf dl ru ru' : Nat → Int32} {lc hc md : Nat → Int64} {i : Nat} (q : gq g ch lo hi mf dl ru lc hc md i) (h : ru' i = 0 ∨ ru' i = ru i) : gq (gset g (ru' i)) ch lo hi mf dl ru' lc hc md i := by
  refine ⟨q.1, q.2.1, q.2.2.1, q.2.2.2.1, q.2.2.2.2.1, q.2.2.2.2.2.1, q.2.2.2.2.2.2.1, fun n => ?_, rfl⟩
  rcases h with h | h
  · exact absurd h n
  · exact q.2.2.2.2.2.2.2.1 (fun z => n (h.trans z))
theorem dv_1 {lo hi mf ru : Int32} (h : dv lo hi mf ru = 1) : 1 < hi - lo := by
  unfold dv at h
  split at h
  · exact absurd h (by decide)
  · split at h
    · split at h
      · exact absurd h (by decide)
      · rename_i n
        have : ¬ ¬ 1 < hi - lo := fun q => n (i_le_nlt.mpr q)
        exact Decidable.of_not_not this
    · exact absurd h (by decide)
theorem dv_2' {lo hi mf ru : Int32} (h : dv lo hi mf ru = 2) : ¬ ru = 0 ∧ ¬ mf = 0 := by
  unfold dv at h
  split at h
  · exact absurd h (by decide)
  · rename_i n
    split at h
    · split at h <;> exact absurd h (by decide)
    · rename_i m
      exact ⟨n, m⟩
theorem nI_i {i j : Nat} (hi : i < 3) (hj : j < 3) {k : Int32} (a : k = nI i) (b : k = nI j) : i = j := (nI_eq (by omega) (by omega)).mp (a.symm.trans b)
theorem mid_n {a b : Nat} (h : a < b) (hb : b ≤ 64) : (nI a + nI b) / 2 = nI ((a + b) / 2) := by
  rw [nI_add]
  exact pk_div (d := 2) (by omega) (by decide) (by decide)
theorem el_ru {blk asr : Int32} {mf dl ch : Nat → Int32} {G : Nat} : ∀ n j b ru k, (el blk asr mf dl ch G n j b ru).2.2 k = 0 ∨ (el blk asr mf dl ch G n j b ru).2.2 k = ru k := by
  intro n
  induction n with
  | zero => intro j b ru k; exact Or.inr rfl
  | succ n ih =>
    intro j b ru k
    unfold el
    by_cases h1 : ru j = 0
    · rw [if_pos h1]; exact ih _ _ _ _
    rw [if_neg h1]
    by_cases h2 : blk ≤ dl j
    · rw [if_pos h2]; exact ih _ _ _ _
    rw [if_neg h2]
    have u : upd ru j 0 k = 0 ∨ upd ru j 0 k = ru k := by
      by_cases e : k = j
      · subst e; exact Or.inl pk_us
      · exact Or.inr (up_ne e)
    by_cases h3 : mf j = 0
    · rw [if_pos h3]; exact u
    rw [if_neg h3]
    rcases ih (j + 1) (upd b asr.toNatClampNeg (b asr.toNatClampNeg + 100)) (upd ru j 0) k with q | q
    · exact Or.inl q
    · rcases u with u | u
      · exact Or.inl (q.trans u)
      · exact Or.inr (q.trans u)
theorem Iv_K {op asr stp : Int32} (h : ¬ op = 0 → vp_in asr 4 ∧ ∃ K, stp = nI K ∧ 1 ≤ K ∧ K ≤ 64) : ∃ K, ¬ op = 0 → vp_in asr 4 ∧ stp = nI K ∧ K ≤ 64 := by
  by_cases e : op = 0
  · exact ⟨0, fun q => absurd e q⟩
  · obtain ⟨a, K, k, _, l⟩ := h e
    exact ⟨K, fun _ => ⟨a, k, l⟩⟩
/-! challenge -/
theorem g_challenge {gc : Int32} {pot : Int32} {blk : Int32} {cnt : Int32} {op : Int32} {str : Int32} {asr : Int32} {stp : Int32} {wds : Int32} {at' : Int32} {thr : Int32} {base : Int64} {trc : Int64} {htr : Int64} {clm : Int64} {b : Nat → Int32} {ops : Nat → Int32} {rl : Nat → Int32} {c : Nat → Int32} {pto : Nat → Int32} {ch : Nat → Int32} {lo : Nat → Int32} {hi : Nat → Int32} {mf : Nat → Int32} {dl : Nat → Int32} {ru : Nat → Int32} {lc : Nat → Int64} {hc : Nat → Int64} {md : Nat → Int64} {out : Nat → Int64} {g0 : ct_Ga} {g1 : ct_Ga} {g2 : ct_Ga} {k : Int32} {Q : Int32 → (ct_Sc × (Nat → Int32) × ct_As × ct_Ga × ct_Ga × ct_Ga × (Nat → Int64)) → Int32 → (ct_Mo × (Nat → Int32) × (Nat → Int32) × (Nat → Int32) × (Nat → Int32) × (Nat → Int64) × (Nat → Int64) × (Nat → Int32) × (Nat → Int64) × (Nat → Int32) × (Nat → Int32)) → Prop} (I : Iv gc cnt op asr stp ops rl c pto ch lo hi mf dl ru lc hc md g0 g1 g2) (hQ : ∀ (t : Int32) (r : Int32) (gc' : Int32) (b' : Nat → Int32) (ch' : Nat → Int32) (lo' : Nat → Int32) (hi' : Nat → Int32) (lc' : Nat → Int64) (hc' : Nat → Int64) (mf' : Nat → Int32) (md' : Nat → Int64) (dl' : Nat → Int32) (ru' : Nat → Int32) (g0' : ct_Ga) (g1' : ct_Ga) (g2' : ct_Ga) (out' : Nat → Int64), (t = 0 → out' 0 = r.toInt64) → Iv gc' cnt op asr stp ops rl c pto ch' lo' hi' mf' dl' ru' lc' hc' md' g0' g1' g2' → Q t ((gc', pot, blk, base), b', (op, str, asr, stp, wds, at', clm), g0', g1', g2', out') r ((t, str, pot, cnt, blk, trc, htr, base, op, asr, stp, wds, at', clm, gc'), b', ch', lo', hi', lc', hc', mf', md', dl', ru')) : wp_La_challenge (fun r u => wp_Mo_challenge (fun r' u' => Q r u r' u') ((thr, str, pot, cnt, blk, trc, htr, base, op, asr, stp, wds, at', clm, gc), b, ch, lo, hi, lc, hc, mf, md, dl, ru) k) (fun _ _ => False) ((gc, pot, blk, base), b, (op, str, asr, stp, wds, at', clm), g0, g1, g2, out) k := by
  have z := fun t (ht : ¬ t = (0 : Int32)) => hQ t 0 gc b ch lo hi lc hc mf md dl ru g0 g1 g2 out (fun h => absurd h ht) I
  obtain ⟨i1, i2, i3, i4, i5, i6, i7, q0, q1, q2, iA, G, gG, G3, G0, Gi, Gd⟩ := I
  have hG3 : vp_in k 4 → ¬ op = 0 → ¬ k = asr → fd ch k G = 0 → G < 3 := by
    intro h1 h2 h3 h4
    rcases (show G < 3 ∨ G = 3 by omega) with q | q
    · exact q
    subst q
    have f := fd_0 h4
    exact (pig4 h1 (iA h2).1 (Gi 0 (by omega)).1 (Gi 1 (by omega)).1 (Gi 2 (by omega)).1 h3 (fun e => f 0 (by omega) e.symm) (fun e => f 1 (by omega) e.symm) (fun e => f 2 (by omega) e.symm) (fun e => (Gi 0 (by omega)).2.1 e.symm) (fun e => (Gi 1 (by omega)).2.1 e.symm) (fun e => (Gi 2 (by omega)).2.1 e.symm) (Gd 0 1 (by omega) (by omega)) (Gd 0 2 (by omega) (by omega)) (Gd 1 2 (by omega) (by omega))).elim
  unfold wp_La_challenge
  refine st_chal ch G gG G3 q0.1 q1.1 q2.1 hG3 (fun h => Or.inl ⟨rfl, ?_⟩) (fun h hs => Or.inr (Or.inl ⟨rfl, ?_⟩)) (fun h1 h2 h3 h4 h5 => Or.inr (Or.inr ⟨rfl, ?_⟩)) (fun h1 h2 h3 h4 h5 => ?_)
  · exact st_mchal G gG G3 hG3 (fun _ => z 1 (by decide)) (fun q => absurd q h) (fun q => absurd q h) (fun q => absurd q h)
  · exact st_mchal G gG G3 hG3 (fun q => absurd h q) (fun _ _ => z 2 (by decide)) (fun _ a b c => absurd hs (fun s => s.elim a (fun s => s.elim b (fun s => s c)))) (fun _ a b c => absurd hs (fun s => s.elim a (fun s => s.elim b (fun s => s c))))
  · exact st_mchal G gG G3 hG3 (fun q => absurd h1 q) (fun _ s => absurd s (fun s => s.elim h2 (fun s => s.elim h3 (fun s => s h4)))) (fun _ _ _ _ _ => z 3 (by decide)) (fun _ _ _ _ q => absurd q h5)
  · intro f4 e4
    have G2 := hG3 h1 h2 h3 h4
    obtain ⟨aA, K, eK, K1, K64⟩ := iA h2
    have I' : Iv (gc + 1) cnt op asr stp ops rl c pto (upd ch G k) (upd lo G 0) (upd hi G stp) (upd mf G 0) (upd dl G (blk + 4)) (upd ru G 1) (vp_updL lc G base) (vp_updL hc G clm) (vp_updL md G 0) (if G = 0 then (k, 0, stp, base, clm, 0, 0, blk + 4, 1) else g0) (if G = 1 then (k, 0, stp, base, clm, 0, 0, blk + 4, 1) else g1) (if G = 2 then (k, 0, stp, base, clm, 0, 0, blk + 4, 1) else g2) := by
      refine ⟨i1, i2, i3, i4, i5, i6, i7, gq_new q0, gq_new q1, gq_new q2, iA, G + 1, by rw [gG, nI_1], by omega, fun e => absurd e h2, fun i hi' => ?_, fun i j hij hj => ?_⟩
      · by_cases e : i = G
        · subst e
          rw [pk_us, pk_us, pk_us, pk_us, pk_us]
          exact ⟨h1, h3, ⟨0, K, rfl, eK, by omega, K64⟩, fun _ n => absurd rfl n⟩
        · rw [up_ne e, up_ne e, up_ne e, up_ne e, up_ne e]
          exact Gi i (by omega)
      · have ei : i ≠ G := by omega
        by_cases e : j = G
        · subst e
          rw [up_ne ei, pk_us]
          exact fd_0 h4 i hij
        · rw [up_ne ei, up_ne e]
          exact Gd i j hij (by omega)
    exact st_mchal G gG G3 hG3 (fun q => absurd h1 q) (fun _ s => absurd s (fun s => s.elim h2 (fun s => s.elim h3 (fun s => s h4)))) (fun _ _ _ _ q => absurd h5 q) (fun _ _ _ _ _ => hQ 0 _ _ _ _ _ _ _ _ _ _ _ _ _ _ _ _ (fun _ => (upL _ _ _).trans e4) I')
/-! post -/
theorem g_post {gc : Int32} {pot : Int32} {blk : Int32} {cnt : Int32} {op : Int32} {str : Int32} {asr : Int32} {stp : Int32} {wds : Int32} {at' : Int32} {thr : Int32} {base : Int64} {trc : Int64} {htr : Int64} {clm : Int64} {ops : Nat → Int32} {ag : Nat → Int32} {ws : Nat → Int32} {rl : Nat → Int32} {hd : Nat → Int32} {c : Nat → Int32} {sc : Nat → Int32} {pto : Nat → Int32} {ch : Nat → Int32} {lo : Nat → Int32} {hi : Nat → Int32} {mf : Nat → Int32} {dl : Nat → Int32} {ru : Nat → Int32} {st : Nat → Int64} {lc : Nat → Int64} {hc : Nat → Int64} {md : Nat → Int64} {mt : Nat → Int64} {out : Nat → Int64} {sm : ct_Ma} {g0 : ct_Ga} {g1 : ct_Ga} {g2 : ct_Ga} {k : Int32} {k2 : Int64} {Q : Int32 → (ct_Sc × (Nat → Int32) × (Nat → Int32) × ct_In × (Nat → Int32) × ct_Ma × (Nat → Int32) × ct_Ma × (Nat → Int32) × (Nat → Int64) × ct_As × ct_Ga × ct_Ga × ct_Ga × (Nat → Int64)) → Int64 → (ct_Mo × (Nat → Int32) × (Nat → Int32) × (Nat → Int32) × (Nat → Int32) × (Nat → Int32) × (Nat → Int32) × (Nat → Int32) × (Nat → Int32) × (Nat → Int64) × (Nat → Int32) × (Nat → Int32) × (Nat → Int64)) → Prop} (I : Iv gc cnt op asr stp ops rl c pto ch lo hi mf dl ru lc hc md g0 g1 g2) (hQ : ∀ (t : Int32) (r : Int64) (sm' : ct_Ma) (sc' : Nat → Int32) (st' : Nat → Int64) (htr' : Int64) (hd' : Nat → Int32) (mt' : Nat → Int64) (mf' : Nat → Int32) (md' : Nat → Int64) (dl' : Nat → Int32) (g0' : ct_Ga) (g1' : ct_Ga) (g2' : ct_Ga) (out' : Nat → Int64), (t = 0 → out' 0 = r) → Iv gc cnt op asr stp ops rl c pto ch lo hi mf' dl' ru lc hc md' g0' g1' g2' → Q t ((gc, pot, blk, base), ops, ag, cnt, ws, mm rl trc, c, sm', sc', st', (op, str, asr, stp, wds, at', clm), g0', g1', g2', out') r ((t, str, pot, cnt, blk, trc, htr', base, op, asr, stp, wds, at', clm, gc), ops, ag, ws, rl, hd', lo, hi, mf', md', dl', ru, mt')) : wp_La_post (fun r u => wp_Mo_post (fun r' u' => Q r u r' u') ((thr, str, pot, cnt, blk, trc, htr, base, op, asr, stp, wds, at', clm, gc), ops, ag, ws, rl, hd, lo, hi, mf, md, dl, ru, mt) k k2) (fun _ _ => False) ((gc, pot, blk, base), ops, ag, cnt, ws, mm rl trc, c, sm, sc, st, (op, str, asr, stp, wds, at', clm), g0, g1, g2, out) k k2 := by
  have z := fun t (ht : ¬ t = (0 : Int32)) => hQ t 0 sm sc st htr hd mt mf md dl g0 g1 g2 out (fun h => absurd h ht) I
  obtain ⟨i1, i2, i3, i4, i5, i6, i7, q0, q1, q2, iA, G, gG, G3, G0, Gi, Gd⟩ := I
  have hm : ∀ i, i < G → ¬ ru i = 0 → ¬ mf i = 0 → 1 < hi i - lo i := fun i h => (Gi i h).2.2.2
  obtain ⟨M, hM⟩ : ∃ M : Nat → Nat, ∀ i, i < G → M i < 2 ^ 31 ∧ (lo i + hi i) / 2 = nI (M i) := by
    refine ⟨fun i => ((lo i + hi i) / 2).toNatClampNeg, fun i h => ?_⟩
    obtain ⟨a, b', ea, eb, ab, b64⟩ := (Gi i h).2.2.1
    have e : (lo i + hi i) / 2 = nI ((a + b') / 2) := by rw [ea, eb]; exact mid_n ab b64
    show ((lo i + hi i) / 2).toNatClampNeg < 2 ^ 31 ∧ (lo i + hi i) / 2 = nI ((lo i + hi i) / 2).toNatClampNeg
    rw [e, nI_clamp (by omega)]
    exact ⟨by omega, rfl⟩
  obtain ⟨V, hV⟩ : ∃ V : Nat → Int64, ∀ i, V i = cv (spn ops ag ws cnt wds (M i) (hk rl hd) trc).1 (spn ops ag ws cnt wds (M i) (hk rl hd) trc).2 := ⟨fun i => _, fun i => rfl⟩
  have hV : ∀ i, i < G → V i = cv (spn ops ag ws cnt wds (M i) (hk rl hd) trc).1 (spn ops ag ws cnt wds (M i) (hk rl hd) trc).2 := fun i _ => hV i
  unfold wp_La_post
  refine st_post hd M gG G3 G0 q0 q1 q2 hm hM V hV i1 i3 i4 i6 (fun h => Or.inl ⟨rfl, ?_⟩) (fun i hi' e hs => Or.inr ⟨rfl, ?_⟩) (fun i hi' e hs sm' sc' st' => ?_)
  · exact st_mpost M gG G3 G0 hM V hV i1 i3 i4 (fun _ => z 1 (by decide)) (fun i hi' e => absurd ⟨i, hi', e⟩ h) (fun i hi' e => absurd ⟨i, hi', e⟩ h)
  · exact st_mpost M gG G3 G0 hM V hV i1 i3 i4 (fun h => absurd ⟨i, hi', e⟩ h) (fun _ _ _ _ => z 2 (by decide)) (fun j hj ej q => absurd (nI_i (by omega) (by omega) e ej ▸ q) hs)
  · refine st_mpost M gG G3 G0 hM V hV i1 i3 i4 (fun h => absurd ⟨i, hi', e⟩ h) (fun j hj ej q => absurd (nI_i (by omega) (by omega) e ej ▸ hs) q) (fun j hj ej _ t' hd' mt' => ?_)
    have ij := nI_i (by omega) (by omega) e ej
    subst ij
    have I' : Iv gc cnt op asr stp ops rl c pto ch lo hi (upd mf i 1) (upd dl i (blk + 4)) ru lc hc (vp_updL md i (V i ^^^ k2)) (if i = 0 then (g0.1, g0.2.1, g0.2.2.1, g0.2.2.2.1, g0.2.2.2.2.1, V i ^^^ k2, 1, blk + 4, g0.2.2.2.2.2.2.2.2) else g0) (if i = 1 then (g1.1, g1.2.1, g1.2.2.1, g1.2.2.2.1, g1.2.2.2.2.1, V i ^^^ k2, 1, blk + 4, g1.2.2.2.2.2.2.2.2) else g1) (if i = 2 then (g2.1, g2.2.1, g2.2.2.1, g2.2.2.2.1, g2.2.2.2.2.1, V i ^^^ k2, 1, blk + 4, g2.2.2.2.2.2.2.2.2) else g2) := by
      refine ⟨i1, i2, i3, i4, i5, i6, i7, gq_post q0, gq_post q1, gq_post q2, iA, G, gG, G3, G0, fun j hj => ?_, Gd⟩
      obtain ⟨a1, a2, a3, a4⟩ := Gi j hj
      refine ⟨a1, a2, a3, fun b1 b2 => ?_⟩
      by_cases e : j = i
      · subst e; exact dv_1 hs
      · rw [up_ne e] at b2; exact a4 b1 b2
    exact hQ 0 _ sm' sc' st' t' hd' mt' _ _ _ _ _ _ _ (fun _ => upL _ _ _) I'
/-! pick -/
theorem gq_pg0 {g : ct_Ga} {ch lo hi mf dl ru : Nat → Int32} {lc hc md : Nat → Int64} {i : Nat} {k2 blk : Int32} (q : gq g ch lo hi mf dl ru lc hc md i) (h : k2 = 0) : gq (pg g k2 blk) ch (upd lo i ((lo i + hi i) / 2)) hi (upd mf i 0) (upd dl i (blk + 4)) ru (vp_updL lc i (md i)) hc (vp_updL md i 0) i := by
  unfold pg
  rw [if_pos h]
  obtain ⟨a1, a2, a3, a4, a5, a6, a7, a8, a9⟩ := q
  exact ⟨a1, by rw [pk_us, ← a2, ← a3], a3, by rw [pk_uLs]; exact a6, a5, pk_uLs.symm, pk_us.symm, fun _ => pk_us.symm, a9⟩
theorem gq_pg1 {g : ct_Ga} {ch lo hi mf dl ru : Nat → Int32} {lc hc md : Nat → Int64} {i : Nat} {k2 blk : Int32} (q : gq g ch lo hi mf dl ru lc hc md i) (h : ¬ k2 = 0) : gq (pg g k2 blk) ch lo (upd hi i ((lo i + hi i) / 2)) (upd mf i 0) (upd dl i (blk + 4)) ru lc (vp_updL hc i (md i)) (vp_updL md i 0) i := by
  unfold pg
  rw [if_neg h]
  obtain ⟨a1, a2, a3, a4, a5, a6, a7, a8, a9⟩ := q
  exact ⟨a1, a2, by rw [pk_us, ← a2, ← a3], a4, by rw [pk_uLs]; exact a6, pk_uLs.symm, pk_us.symm, fun _ => pk_us.symm, a9⟩
theorem gq_pn0 {g : ct_Ga} {ch lo hi mf dl ru : Nat → Int32} {lc hc md : Nat → Int64} {i j : Nat} {a f d : Int32} {x m : Int64} (q : gq g ch lo hi mf dl ru lc hc md j) (h : j ≠ i) : gq g ch (upd lo i a) hi (upd mf i f) (upd dl i d) ru (vp_updL lc i x) hc (vp_updL md i m) j := by
  unfold gq
  rw [up_ne h, up_ne h, up_ne h, pk_uLn h, pk_uLn h]
  exact q
theorem gq_pn1 {g : ct_Ga} {ch lo hi mf dl ru : Nat → Int32} {lc hc md : Nat → Int64} {i j : Nat} {a f d : Int32} {x m : Int64} (q : gq g ch lo hi mf dl ru lc hc md j) (h : j ≠ i) : gq g ch lo (upd hi i a) (upd mf i f) (upd dl i d) ru lc (vp_updL hc i x) (vp_updL md i m) j := by
  unfold gq
  rw [up_ne h, up_ne h, up_ne h, pk_uLn h, pk_uLn h]
  exact q
theorem pg_r0 {g : ct_Ga} {ch lo hi mf dl ru : Nat → Int32} {lc hc md : Nat → Int64} {i : Nat} {k2 blk : Int32} (q : gq g ch lo hi mf dl ru lc hc md i) (h : k2 = 0) : (pg g k2 blk).2.2.1 - (pg g k2 blk).2.1 = hi i - (lo i + hi i) / 2 := by
  unfold pg
  rw [if_pos h, ← q.2.1, ← q.2.2.1]
theorem pg_r1 {g : ct_Ga} {ch lo hi mf dl ru : Nat → Int32} {lc hc md : Nat → Int64} {i : Nat} {k2 blk : Int32} (q : gq g ch lo hi mf dl ru lc hc md i) (h : ¬ k2 = 0) : (pg g k2 blk).2.2.1 - (pg g k2 blk).2.1 = (lo i + hi i) / 2 - lo i := by
  unfold pg
  rw [if_neg h, ← q.2.1, ← q.2.2.1]
theorem Iv_p0 {gc cnt op asr stp d : Int32} {ops rl c pto ch lo hi mf dl ru : Nat → Int32} {lc hc md : Nat → Int64} {g0 g1 g2 h0 h1 h2 : ct_Ga} {i G : Nat} {x m : Int64} (I : Iv gc cnt op asr stp ops rl c pto ch lo hi mf dl ru lc hc md g0 g1 g2) (gG : gc = nI G) (G3 : G ≤ 3) (iG : i < G) (hv : dv (lo i) (hi i) (mf i) (ru i) = 2) (e0 : gq h0 ch (upd lo i ((lo i + hi i) / 2)) hi (upd mf i 0) (upd dl i d) ru (vp_updL lc i x) hc (vp_updL md i m) 0) (e1 : gq h1 ch (upd lo i ((lo i + hi i) / 2)) hi (upd mf i 0) (upd dl i d) ru (vp_updL lc i x) hc (vp_updL md i m) 1) (e2 : gq h2 ch (upd lo i ((lo i + hi i) / 2)) hi (upd mf i 0) (upd dl i d) ru (vp_updL lc i x) hc (vp_updL md i m) 2) : Iv gc cnt op asr stp ops rl c pto ch (upd lo i ((lo i + hi i) / 2)) hi (upd mf i 0) (upd dl i d) ru (vp_updL lc i x) hc (vp_updL md i m) h0 h1 h2 := by
  obtain ⟨i1, i2, i3, i4, i5, i6, i7, q0, q1, q2, iA, G', gG', G3', G0, Gi, Gd⟩ := I
  have eG : G = G' := (nI_eq (by omega) (by omega)).mp (gG.symm.trans gG')
  subst eG
  refine ⟨i1, i2, i3, i4, i5, i6, i7, e0, e1, e2, iA, G, gG, G3, G0, fun j hj => ?_, Gd⟩
  obtain ⟨a1, a2, a3, a4⟩ := Gi j hj
  by_cases e : j = i
  · subst e
    rw [pk_us, pk_us]
    obtain ⟨a, b, ea, eb, ab, b64⟩ := a3
    refine ⟨a1, a2, ⟨(a + b) / 2, b, ?_, eb, by omega, b64⟩, fun _ n => absurd rfl n⟩
    rw [ea, eb]; exact mid_n ab b64
  · rw [up_ne e, up_ne e]
    exact ⟨a1, a2, a3, a4⟩
theorem Iv_p1 {gc cnt op asr stp d : Int32} {ops rl c pto ch lo hi mf dl ru : Nat → Int32} {lc hc md : Nat → Int64} {g0 g1 g2 h0 h1 h2 : ct_Ga} {i G : Nat} {x m : Int64} (I : Iv gc cnt op asr stp ops rl c pto ch lo hi mf dl ru lc hc md g0 g1 g2) (gG : gc = nI G) (G3 : G ≤ 3) (iG : i < G) (hv : dv (lo i) (hi i) (mf i) (ru i) = 2) (e0 : gq h0 ch lo (upd hi i ((lo i + hi i) / 2)) (upd mf i 0) (upd dl i d) ru lc (vp_updL hc i x) (vp_updL md i m) 0) (e1 : gq h1 ch lo (upd hi i ((lo i + hi i) / 2)) (upd mf i 0) (upd dl i d) ru lc (vp_updL hc i x) (vp_updL md i m) 1) (e2 : gq h2 ch lo (upd hi i ((lo i + hi i) / 2)) (upd mf i 0) (upd dl i d) ru lc (vp_updL hc i x) (vp_updL md i m) 2) : Iv gc cnt op asr stp ops rl c pto ch lo (upd hi i ((lo i + hi i) / 2)) (upd mf i 0) (upd dl i d) ru lc (vp_updL hc i x) (vp_updL md i m) h0 h1 h2 := by
  obtain ⟨i1, i2, i3, i4, i5, i6, i7, q0, q1, q2, iA, G', gG', G3', G0, Gi, Gd⟩ := I
  have eG : G = G' := (nI_eq (by omega) (by omega)).mp (gG.symm.trans gG')
  subst eG
  refine ⟨i1, i2, i3, i4, i5, i6, i7, e0, e1, e2, iA, G, gG, G3, G0, fun j hj => ?_, Gd⟩
  obtain ⟨a1, a2, a3, a4⟩ := Gi j hj
  by_cases e : j = i
  · subst e
    rw [pk_us, pk_us]
    have w := a4 (dv_2' hv).1 (dv_2' hv).2
    obtain ⟨a, b, ea, eb, ab, b64⟩ := a3
    rw [ea, eb, pk_sub (by omega)] at w
    have w := (nI_ltI (a := 1) (by decide) (by omega)).mp w
    refine ⟨a1, a2, ⟨a, (a + b) / 2, ea, ?_, by omega, by omega⟩, fun _ n => absurd rfl n⟩
    rw [ea, eb]; exact mid_n ab b64
  · rw [up_ne e, up_ne e]
    exact ⟨a1, a2, a3, a4⟩
theorem g_pick {gc : Int32} {pot : Int32} {blk : Int32} {cnt : Int32} {op : Int32} {str : Int32} {asr : Int32} {stp : Int32} {wds : Int32} {at' : Int32} {thr : Int32} {base : Int64} {trc : Int64} {htr : Int64} {clm : Int64} {ops : Nat → Int32} {rl : Nat → Int32} {c : Nat → Int32} {pto : Nat → Int32} {ch : Nat → Int32} {lo : Nat → Int32} {hi : Nat → Int32} {mf : Nat → Int32} {dl : Nat → Int32} {ru : Nat → Int32} {lc : Nat → Int64} {hc : Nat → Int64} {md : Nat → Int64} {out : Nat → Int64} {g0 : ct_Ga} {g1 : ct_Ga} {g2 : ct_Ga} {k : Int32} {k2 : Int32} {Q : Int32 → (ct_Sc × ct_Ga × ct_Ga × ct_Ga × (Nat → Int64)) → Int32 → (ct_Mo × (Nat → Int32) × (Nat → Int32) × (Nat → Int64) × (Nat → Int64) × (Nat → Int32) × (Nat → Int64) × (Nat → Int32) × (Nat → Int32)) → Prop} (I : Iv gc cnt op asr stp ops rl c pto ch lo hi mf dl ru lc hc md g0 g1 g2) (hQ : ∀ (t : Int32) (r : Int32) (lo' : Nat → Int32) (hi' : Nat → Int32) (lc' : Nat → Int64) (hc' : Nat → Int64) (mf' : Nat → Int32) (md' : Nat → Int64) (dl' : Nat → Int32) (g0' : ct_Ga) (g1' : ct_Ga) (g2' : ct_Ga) (out' : Nat → Int64), (t = 0 → out' 0 = r.toInt64) → Iv gc cnt op asr stp ops rl c pto ch lo' hi' mf' dl' ru lc' hc' md' g0' g1' g2' → Q t ((gc, pot, blk, base), g0', g1', g2', out') r ((t, str, pot, cnt, blk, trc, htr, base, op, asr, stp, wds, at', clm, gc), lo', hi', lc', hc', mf', md', dl', ru)) : wp_La_pick (fun r u => wp_Mo_pick (fun r' u' => Q r u r' u') ((thr, str, pot, cnt, blk, trc, htr, base, op, asr, stp, wds, at', clm, gc), lo, hi, lc, hc, mf, md, dl, ru) k k2) (fun _ _ => False) ((gc, pot, blk, base), g0, g1, g2, out) k k2 := by
  have z := fun t (ht : ¬ t = (0 : Int32)) => hQ t 0 lo hi lc hc mf md dl g0 g1 g2 out (fun h => absurd h ht) I
  have J := I
  obtain ⟨i1, i2, i3, i4, i5, i6, i7, q0, q1, q2, iA, G, gG, G3, G0, Gi, Gd⟩ := I
  have hm : ∀ i, i < G → ¬ ru i = 0 → ¬ mf i = 0 → 1 < hi i - lo i := fun i h => (Gi i h).2.2.2
  unfold wp_La_pick
  refine st_pick gG G3 q0 q1 q2 hm (fun h => Or.inl ⟨rfl, ?_⟩) (fun i hi' e hs => Or.inr ⟨rfl, ?_⟩) (fun hi' e hs => ?_) (fun hi' e hs => ?_) (fun hi' e hs => ?_)
  · exact st_mpick gG G3 G0 (fun _ => z 1 (by decide)) (fun i hi' e => absurd ⟨i, hi', e⟩ h) (fun i hi' e => absurd ⟨i, hi', e⟩ h) (fun i hi' e => absurd ⟨i, hi', e⟩ h)
  · exact st_mpick gG G3 G0 (fun h => absurd ⟨i, hi', e⟩ h) (fun _ _ _ _ => z 2 (by decide)) (fun j hj ej q => absurd (nI_i (by omega) (by omega) e ej ▸ q) hs) (fun j hj ej q => absurd (nI_i (by omega) (by omega) e ej ▸ q) hs)
  · intro f4 e4
    have e : k = nI 0 := e
    refine st_mpick gG G3 G0 (fun h => absurd ⟨0, hi', e⟩ h) (fun j hj ej q => absurd (nI_i (by omega) (by omega) e ej ▸ hs) q) (fun j hj ej _ h2 => ?_) (fun j hj ej _ h2 => ?_)
    · have ij := nI_i (by omega) (by omega) e ej
      subst ij
      exact hQ 0 _ _ _ _ _ _ _ _ _ _ _ _ (fun _ => (upL _ _ _).trans (e4.trans (congrArg Int32.toInt64 (pg_r0 q0 h2)))) (Iv_p0 J gG G3 hi' hs (gq_pg0 q0 h2) (gq_pn0 q1 (by decide)) (gq_pn0 q2 (by decide)))
    · have ij := nI_i (by omega) (by omega) e ej
      subst ij
      exact hQ 0 _ _ _ _ _ _ _ _ _ _ _ _ (fun _ => (upL _ _ _).trans (e4.trans (congrArg Int32.toInt64 (pg_r1 q0 h2)))) (Iv_p1 J gG G3 hi' hs (gq_pg1 q0 h2) (gq_pn1 q1 (by decide)) (gq_pn1 q2 (by decide)))
  · intro f4 e4
    have e : k = nI 1 := e
    refine st_mpick gG G3 G0 (fun h => absurd ⟨1, hi', e⟩ h) (fun j hj ej q => absurd (nI_i (by omega) (by omega) e ej ▸ hs) q) (fun j hj ej _ h2 => ?_) (fun j hj ej _ h2 => ?_)
    · have ij := nI_i (by omega) (by omega) e ej
      subst ij
      exact hQ 0 _ _ _ _ _ _ _ _ _ _ _ _ (fun _ => (upL _ _ _).trans (e4.trans (congrArg Int32.toInt64 (pg_r0 q1 h2)))) (Iv_p0 J gG G3 hi' hs (gq_pn0 q0 (by decide)) (gq_pg0 q1 h2) (gq_pn0 q2 (by decide)))
    · have ij := nI_i (by omega) (by omega) e ej
      subst ij
      exact hQ 0 _ _ _ _ _ _ _ _ _ _ _ _ (fun _ => (upL _ _ _).trans (e4.trans (congrArg Int32.toInt64 (pg_r1 q1 h2)))) (Iv_p1 J gG G3 hi' hs (gq_pn1 q0 (by decide)) (gq_pg1 q1 h2) (gq_pn1 q2 (by decide)))
  · intro f4 e4
    have e : k = nI 2 := e
    refine st_mpick gG G3 G0 (fun h => absurd ⟨2, hi', e⟩ h) (fun j hj ej q => absurd (nI_i (by omega) (by omega) e ej ▸ hs) q) (fun j hj ej _ h2 => ?_) (fun j hj ej _ h2 => ?_)
    · have ij := nI_i (by omega) (by omega) e ej
      subst ij
      exact hQ 0 _ _ _ _ _ _ _ _ _ _ _ _ (fun _ => (upL _ _ _).trans (e4.trans (congrArg Int32.toInt64 (pg_r0 q2 h2)))) (Iv_p0 J gG G3 hi' hs (gq_pn0 q0 (by decide)) (gq_pn0 q1 (by decide)) (gq_pg0 q2 h2))
    · have ij := nI_i (by omega) (by omega) e ej
      subst ij
      exact hQ 0 _ _ _ _ _ _ _ _ _ _ _ _ (fun _ => (upL _ _ _).trans (e4.trans (congrArg Int32.toInt64 (pg_r1 q2 h2)))) (Iv_p1 J gG G3 hi' hs (gq_pn1 q0 (by decide)) (gq_pn1 q1 (by decide)) (gq_pg1 q2 h2))
/-! block -/
theorem Iv_stand {gc cnt op asr stp : Int32} {ops rl rl' c c' pto pto' ch lo hi mf dl ru ru' : Nat → Int32} {lc hc md : Nat → Int64} {g0 g1 g2 h0 h1 h2 : ct_Ga} (I : Iv gc cnt op asr stp ops rl c pto ch lo hi mf dl ru lc hc md g0 g1 g2) (p0 : vp_in (rl' 0) 16) (p4 : vp_in (rl' 4) 31) (pc : ∀ i, i < 8 → c' i = rl' (5 + i)) (pt : ∀ i, vp_in (pto' i) 4) (e0 : gq h0 ch lo hi mf dl ru' lc hc md 0) (e1 : gq h1 ch lo hi mf dl ru' lc hc md 1) (e2 : gq h2 ch lo hi mf dl ru' lc hc md 2) : Iv 0 cnt 0 asr stp ops rl' c' pto' ch lo hi mf dl ru' lc hc md h0 h1 h2 := by
  obtain ⟨i1, i2, i3, -⟩ := I
  exact ⟨i1, i2, i3, p0, p4, pc, pt, e0, e1, e2, fun n => absurd rfl n, 0, rfl, by decide, fun _ => rfl, fun i h => absurd h (by omega), fun i j _ h => absurd h (by omega)⟩
theorem Iv_ru {gc cnt op asr stp : Int32} {ops rl c pto ch lo hi mf dl ru ru' : Nat → Int32} {lc hc md : Nat → Int64} {g0 g1 g2 h0 h1 h2 : ct_Ga} (I : Iv gc cnt op asr stp ops rl c pto ch lo hi mf dl ru lc hc md g0 g1 g2) (r : ∀ i, ru' i = 0 ∨ ru' i = ru i) (e0 : gq h0 ch lo hi mf dl ru' lc hc md 0) (e1 : gq h1 ch lo hi mf dl ru' lc hc md 1) (e2 : gq h2 ch lo hi mf dl ru' lc hc md 2) : Iv gc cnt op asr stp ops rl c pto ch lo hi mf dl ru' lc hc md h0 h1 h2 := by
  obtain ⟨i1, i2, i3, i4, i5, i6, i7, q0, q1, q2, iA, G, gG, G3, G0, Gi, Gd⟩ := I
  refine ⟨i1, i2, i3, i4, i5, i6, i7, e0, e1, e2, iA, G, gG, G3, G0, fun j hj => ?_, Gd⟩
  obtain ⟨a1, a2, a3, a4⟩ := Gi j hj
  refine ⟨a1, a2, a3, fun b1 b2 => ?_⟩
  rcases r j with r | r
  · exact absurd r b1
  · exact a4 (fun z => b1 (r.trans z)) b2
theorem g_block {gc : Int32} {pot : Int32} {blk : Int32} {cnt : Int32} {op : Int32} {str : Int32} {asr : Int32} {stp : Int32} {wds : Int32} {at' : Int32} {thr : Int32} {base : Int64} {trc : Int64} {htr : Int64} {clm : Int64} {b : Nat → Int32} {ops : Nat → Int32} {ag : Nat → Int32} {ws : Nat → Int32} {rl : Nat → Int32} {hd : Nat → Int32} {c : Nat → Int32} {pto : Nat → Int32} {pam : Nat → Int32} {ch : Nat → Int32} {lo : Nat → Int32} {hi : Nat → Int32} {mf : Nat → Int32} {dl : Nat → Int32} {ru : Nat → Int32} {lc : Nat → Int64} {hc : Nat → Int64} {md : Nat → Int64} {g0 : ct_Ga} {g1 : ct_Ga} {g2 : ct_Ga}  {Q : Int32 → (ct_Sc × (Nat → Int32) × (Nat → Int32) × (Nat → Int32) × ct_In × (Nat → Int32) × ct_Ma × (Nat → Int32) × ct_Pa × (Nat → Int32) × (Nat → Int32) × ct_As × ct_Ga × ct_Ga × ct_Ga) → Int32 → (ct_Mo × (Nat → Int32) × (Nat → Int32) × (Nat → Int32) × (Nat → Int32) × (Nat → Int32) × (Nat → Int32) × (Nat → Int32) × (Nat → Int32) × (Nat → Int32) × (Nat → Int32) × (Nat → Int32) × (Nat → Int32) × (Nat → Int32) × (Nat → Int32)) → Prop} (I : Iv gc cnt op asr stp ops rl c pto ch lo hi mf dl ru lc hc md g0 g1 g2) (hQ : ∀ (r : Int32) (gc' : Int32) (blk' : Int32) (base' : Int64) (trc' : Int64) (op' : Int32) (b' : Nat → Int32) (rl' : Nat → Int32) (c' : Nat → Int32) (pto' : Nat → Int32) (pam' : Nat → Int32) (htr' : Int64) (hd' : Nat → Int32) (ru' : Nat → Int32) (g0' : ct_Ga) (g1' : ct_Ga) (g2' : ct_Ga), Iv gc' cnt op' asr stp ops rl' c' pto' ch lo hi mf dl ru' lc hc md g0' g1' g2' → Q r ((gc', pot, blk', base'), b', ops, ag, cnt, ws, mm rl' trc', c', rl' 4, pto', pam', (op', str, asr, stp, wds, at', clm), g0', g1', g2') r ((0, str, pot, cnt, blk', trc', htr', base', op', asr, stp, wds, at', clm, gc'), ops, ag, b', ws, rl', hd', pto', pam', ch, lo, hi, mf, dl, ru')) : wp_Sc_block (fun r u => wp_Mo_block (fun r' u' => Q r u r' u') ((thr, str, pot, cnt, blk, trc, htr, base, op, asr, stp, wds, at', clm, gc), ops, ag, b, ws, rl, hd, pto, pam, ch, lo, hi, mf, dl, ru)) ((gc, pot, blk, base), b, ops, ag, cnt, ws, mm rl trc, c, rl 4, pto, pam, (op, str, asr, stp, wds, at', clm), g0, g1, g2) := by
  have J := I
  obtain ⟨i1, i2, i3, i4, i5, i6, i7, q0, q1, q2, iA, G, gG, G3, G0, Gi, Gd⟩ := I
  obtain ⟨K, hop⟩ := Iv_K iA
  obtain ⟨E, hE⟩ : ∃ E, E = el (blk + 1) asr mf dl ch G G 0 b ru := ⟨_, rfl⟩
  have r : ∀ i, E.2.2 i = 0 ∨ E.2.2 i = ru i := fun i => by rw [hE]; exact el_ru _ _ _ _ _
  have hch : ∀ j, j < G → vp_in (ch j) 4 := fun j h => (Gi j h).1
  have ha : 0 < G → vp_in asr 4 := fun h => (iA (fun e => absurd (G0 e) (by omega))).1
  have e0 := gq_run q0 (r 0)
  have e1 := gq_run q1 (r 1)
  have e2 := gq_run q2 (r 2)
  refine st_block hd ru mf dl ch G K gG G3 ha hch q0.1 q1.1 q2.1 q0.2.2.2.2.2.2.1 q1.2.2.2.2.2.2.1 q2.2.2.2.2.2.2.1 q0.2.2.2.2.2.2.2.2 q1.2.2.2.2.2.2.2.2 q2.2.2.2.2.2.2.2.2 ?_ i1 i3 i4 i5 i6 hop E hE (fun a => ?_) (fun a n => ?_) (fun a o1 o2 o3 c' hc' => ?_)
  · intro k hk' nr
    refine ⟨fun e => ?_, fun e => ?_, fun e => ?_⟩
    · subst e; exact ⟨q0.2.2.2.2.2.2.2.1 nr, fun m => by rw [q0.2.1, q0.2.2.1]; exact (Gi 0 hk').2.2.2 nr m⟩
    · subst e; exact ⟨q1.2.2.2.2.2.2.2.1 nr, fun m => by rw [q1.2.1, q1.2.2.1]; exact (Gi 1 hk').2.2.2 nr m⟩
    · subst e; exact ⟨q2.2.2.2.2.2.2.2.1 nr, fun m => by rw [q2.2.1, q2.2.2.1]; exact (Gi 2 hk').2.2.2 nr m⟩
  · exact st_mblock G K gG G3 G0 hch i1 i3 i4 i5 hop E hE (fun _ => hQ _ _ _ _ _ _ _ _ _ _ _ _ _ _ _ _ _ (Iv_stand J i4 i5 i6 i7 e0 e1 e2)) (fun h => absurd (a.symm.trans h) (by decide)) (fun h => absurd (a.symm.trans h) (by decide))
  · exact st_mblock G K gG G3 G0 hch i1 i3 i4 i5 hop E hE (fun h => absurd (a.symm.trans h) (by decide)) (fun _ _ => hQ _ _ _ _ _ _ _ _ _ _ _ _ _ _ _ _ _ (Iv_ru J r e0 e1 e2)) (fun _ o1 o2 o3 => absurd n (fun s => s.elim o1 (fun s => s.elim o2 (fun s => s o3))))
  · have p0 := spn_pc (ag := ag) (ws := ws) (cnt := cnt) (lim := wds) i1 K (hk rl hd) trc (by rw [hk_i (by decide)]; exact i4)
    have p4 := spn_31 (ag := ag) (ws := ws) (cnt := cnt) (lim := wds) i1 K (hk rl hd) trc (by rw [hk_i (by decide)]; exact i5)
    have pt := pp_to (ops := ops) (ag := ag) (ws := ws) (cnt := cnt) (lim := wds) K (hk rl hd) trc pto pam i7
    refine st_mblock G K gG G3 G0 hch i1 i3 i4 i5 hop E hE (fun h => absurd (a.symm.trans h) (by decide)) (fun _ n => absurd n (fun s => s.elim o1 (fun s => s.elim o2 (fun s => s o3)))) (fun _ _ _ _ => ?_)
    generalize spn ops ag ws cnt wds K (hk rl hd) trc = S at *
    generalize pp ops ag ws cnt wds K (hk rl hd) trc pto pam = P at *
    have w1 : mm S.1 S.2 = mm (hk S.1 rl) S.2 := (hk_mm S.1 rl S.2).symm
    have w4 : S.1 4 = hk S.1 rl 4 := (hk_i (by decide)).symm
    rw [w1, w4]
    exact hQ _ _ _ _ _ _ _ _ _ _ _ _ _ _ _ _ _ (Iv_stand J (by rw [hk_i (by decide)]; exact p0) (by rw [hk_i (by decide)]; exact p4) (fun i h => by rw [hk_i (by omega)]; exact hc' i h) pt e0 e1 e2)
/-! prove -/
theorem g_prove {gc : Int32} {pot : Int32} {blk : Int32} {cnt : Int32} {op : Int32} {str : Int32} {asr : Int32} {stp : Int32} {wds : Int32} {at' : Int32} {thr : Int32} {base : Int64} {trc : Int64} {htr : Int64} {clm : Int64} {b : Nat → Int32} {ops : Nat → Int32} {ag : Nat → Int32} {ws : Nat → Int32} {rl : Nat → Int32} {hd : Nat → Int32} {c : Nat → Int32} {sc : Nat → Int32} {pto : Nat → Int32} {pam : Nat → Int32} {pcl : Nat → Int32} {ch : Nat → Int32} {lo : Nat → Int32} {hi : Nat → Int32} {mf : Nat → Int32} {dl : Nat → Int32} {ru : Nat → Int32} {st : Nat → Int64} {pj : Nat → Int64} {lc : Nat → Int64} {hc : Nat → Int64} {md : Nat → Int64} {mt : Nat → Int64} {mpth : Nat → Int64} {out : Nat → Int64} {sm : ct_Ma} {pm : ct_Ma} {pr : ct_Pr} {g0 : ct_Ga} {g1 : ct_Ga} {g2 : ct_Ga} {k : Int32} {k2 : Int32} {k3 : Int32} {Q : Int32 → (ct_Sc × (Nat → Int32) × (Nat → Int32) × (Nat → Int32) × ct_In × (Nat → Int32) × ct_Ma × (Nat → Int32) × ct_Ma × (Nat → Int32) × (Nat → Int64) × ct_Pa × (Nat → Int32) × (Nat → Int32) × ct_Pr × ct_Ma × (Nat → Int32) × (Nat → Int64) × ct_As × ct_Ga × ct_Ga × ct_Ga × (Nat → Int64)) → Int32 → (ct_Mo × (Nat → Int32) × (Nat → Int32) × (Nat → Int32) × (Nat → Int32) × (Nat → Int32) × (Nat → Int32) × (Nat → Int32) × (Nat → Int32) × (Nat → Int32) × (Nat → Int32) × (Nat → Int64) × (Nat → Int64) × (Nat → Int32) × (Nat → Int32) × (Nat → Int32) × (Nat → Int64) × (Nat → Int64)) → Prop} (I : Iv gc cnt op asr stp ops rl c pto ch lo hi mf dl ru lc hc md g0 g1 g2) (hQ : ∀ (t : Int32) (r : Int32) (gc' : Int32) (base' : Int64) (trc' : Int64) (op' : Int32) (b' : Nat → Int32) (rl' : Nat → Int32) (c' : Nat → Int32) (sm' : ct_Ma) (sc' : Nat → Int32) (st' : Nat → Int64) (pto' : Nat → Int32) (pam' : Nat → Int32) (pr' : ct_Pr) (pm' : ct_Ma) (pcl' : Nat → Int32) (pj' : Nat → Int64) (htr' : Int64) (hd' : Nat → Int32) (mt' : Nat → Int64) (mpth' : Nat → Int64) (dl' : Nat → Int32) (ru' : Nat → Int32) (g0' : ct_Ga) (g1' : ct_Ga) (g2' : ct_Ga) (out' : Nat → Int64), (t = 0 → (r = 0 → out' 0 = 0) ∧ (¬ r = 0 → out' 0 = 1)) → Iv gc' cnt op' asr stp ops rl' c' pto' ch lo hi mf dl' ru' lc hc md g0' g1' g2' → Q t ((gc', pot, blk, base'), b', ops, ag, cnt, ws, mm rl' trc', c', sm', sc', st', rl' 4, pto', pam', pr', pm', pcl', pj', (op', str, asr, stp, wds, at', clm), g0', g1', g2', out') r ((t, str, pot, cnt, blk, trc', htr', base', op', asr, stp, wds, at', clm, gc'), ops, ag, b', ws, rl', hd', pto', pam', lo, hi, lc, hc, mf, dl', ru', mt', mpth')) : wp_La_prove (fun r u => wp_Mo_prove (fun r' u' => Q r u r' u') ((thr, str, pot, cnt, blk, trc, htr, base, op, asr, stp, wds, at', clm, gc), ops, ag, b, ws, rl, hd, pto, pam, lo, hi, lc, hc, mf, dl, ru, mt, mpth) k k2 k3) (fun _ _ => False) ((gc, pot, blk, base), b, ops, ag, cnt, ws, mm rl trc, c, sm, sc, st, rl 4, pto, pam, pr, pm, pcl, pj, (op, str, asr, stp, wds, at', clm), g0, g1, g2, out) k k2 k3 := by
  have z := fun t (ht : ¬ t = (0 : Int32)) => hQ t 0 gc base trc op b rl c sm sc st pto pam pr pm pcl pj htr hd mt mpth dl ru g0 g1 g2 out (fun h => absurd h ht) I
  have J := I
  obtain ⟨i1, i2, i3, i4, i5, i6, i7, q0, q1, q2, iA, G, gG, G3, G0, Gi, Gd⟩ := I
  have hm : ∀ i, i < G → ¬ ru i = 0 → ¬ mf i = 0 → 1 < hi i - lo i := fun i h => (Gi i h).2.2.2
  obtain ⟨K, hop⟩ := Iv_K iA
  obtain ⟨A, hA⟩ : ∃ A : Nat → Nat, ∀ i, i < G → A i < 2 ^ 31 ∧ lo i = nI (A i) := by
    refine ⟨fun i => (lo i).toNatClampNeg, fun i h => ?_⟩
    obtain ⟨a, b', ea, eb, ab, b64⟩ := (Gi i h).2.2.1
    show (lo i).toNatClampNeg < 2 ^ 31 ∧ lo i = nI (lo i).toNatClampNeg
    rw [ea, nI_clamp (by omega)]
    exact ⟨by omega, rfl⟩
  obtain ⟨hL, eL⟩ : ∃ hL : Nat → Nat → Int32, ∀ i, hL i = (spn ops ag ws cnt wds (A i) (hk rl hd) trc).1 := ⟨fun i => _, fun i => rfl⟩
  obtain ⟨tL, eT⟩ : ∃ tL : Nat → Int64, ∀ i, tL i = (spn ops ag ws cnt wds (A i) (hk rl hd) trc).2 := ⟨fun i => _, fun i => rfl⟩
  obtain ⟨j, ej⟩ : ∃ j : Nat → Nat, ∀ i, j i < 8 ∧ hL i 2 &&& 7 = nI (j i) := by
    refine ⟨fun i => (hL i 2 &&& 7).toNatClampNeg, fun i => ?_⟩
    obtain ⟨j, h1, h2, h3, -⟩ := y9_cl (hL i 2)
    show (hL i 2 &&& 7).toNatClampNeg < 8 ∧ hL i 2 &&& 7 = nI (hL i 2 &&& 7).toNatClampNeg
    rw [h3]
    exact ⟨h1, h2⟩
  obtain ⟨V1, e1⟩ : ∃ V1 : Nat → Int64, ∀ i, V1 i = cp (pH (hL i) (j i) k2 k3) (aT (tL i) k2 k3) (aP (sbv (hL i) (j i)) k2 k3) (aH (hL i) k2 k3 2 &&& 7) := ⟨fun i => _, fun i => rfl⟩
  obtain ⟨V2, e2⟩ : ∃ V2 : Nat → Int64, ∀ i, V2 i = cp (sp ops ag ws cnt wds (pH (hL i) (j i) k2 k3) (aT (tL i) k2 k3)).1 (sp ops ag ws cnt wds (pH (hL i) (j i) k2 k3) (aT (tL i) k2 k3)).2 (aP (sbv (hL i) (j i)) k2 k3) (aH (hL i) k2 k3 2 &&& 7) := ⟨fun i => _, fun i => rfl⟩
  obtain ⟨R, eR⟩ : ∃ R : Nat → Int32, ∀ i, R i = pv (V1 i) (lc i) (V2 i) (hc i) (pH (hL i) (j i) k2 k3 0) := ⟨fun i => _, fun i => rfl⟩
  have mp := fun {post} => @st_mprove post thr str pot cnt blk op asr stp wds at' gc trc htr base clm b ops ag ws rl hd pto pam lo hi mf dl ru lc hc mt mpth k k2 k3 A G K gG G3 G0 hA i1 i3 i4 i5 hop hL tL (fun i _ => eL i) (fun i _ => eT i) j (fun i _ => ej i) V1 V2 (fun i _ => e1 i) (fun i _ => e2 i) R (fun i _ => eR i)
  unfold wp_La_prove
  refine st_prove hd A gG G3 G0 q0 q1 q2 hm hA i1 i3 i4 i5 i6 hop hL tL (fun i _ => eL i) (fun i _ => eT i) j (fun i _ => ej i) V1 V2 (fun i _ => e1 i) (fun i _ => e2 i) R (fun i _ => eR i) (fun h => Or.inl ⟨rfl, ?_⟩) (fun i hi' e hs => Or.inr (Or.inl ⟨rfl, ?_⟩)) (fun i hi' e hs hx => Or.inr (Or.inr ⟨rfl, ?_⟩)) (fun i hi' e hs x0 x1 hr sm' sc' st' pr' pm' pcl' pj' => ⟨fun _ => ?_, fun h => absurd rfl h⟩) (fun i hi' e hs x0 x1 hr hn sm' sc' st' pr' pm' pcl' pj' => ⟨fun h => absurd h (by decide), fun _ => ?_⟩) (fun i hi' e hs x0 x1 hr o1 o2 o3 c' hc' sm' sc' st' pr' pm' pcl' pj' => ⟨fun h => absurd h (by decide), fun _ => ?_⟩)
  · exact mp (fun _ => z 1 (by decide)) (fun i hi' e => absurd ⟨i, hi', e⟩ h) (fun i hi' e => absurd ⟨i, hi', e⟩ h) (fun i hi' e => absurd ⟨i, hi', e⟩ h) (fun i hi' e => absurd ⟨i, hi', e⟩ h) (fun i hi' e => absurd ⟨i, hi', e⟩ h)
  · exact mp (fun h => absurd ⟨i, hi', e⟩ h) (fun _ _ _ _ => z 2 (by decide)) (fun j hj ej q => absurd (nI_i (by omega) (by omega) e ej ▸ q) hs) (fun j hj ej q => absurd (nI_i (by omega) (by omega) e ej ▸ q) hs) (fun j hj ej q => absurd (nI_i (by omega) (by omega) e ej ▸ q) hs) (fun j hj ej q => absurd (nI_i (by omega) (by omega) e ej ▸ q) hs)
  · exact mp (fun h => absurd ⟨i, hi', e⟩ h) (fun j hj ej q => absurd (nI_i (by omega) (by omega) e ej ▸ hs) q) (fun _ _ _ _ _ => z 3 (by decide)) (fun j hj ej q a b => absurd hx (fun s => s.elim a (fun s => s b))) (fun j hj ej q a b => absurd hx (fun s => s.elim a (fun s => s b))) (fun j hj ej q a b => absurd hx (fun s => s.elim a (fun s => s b)))
  · refine mp (fun h => absurd ⟨i, hi', e⟩ h) (fun j hj ej q => absurd (nI_i (by omega) (by omega) e ej ▸ hs) q) (fun _ _ _ _ s => absurd s (fun s => s.elim x0 (fun s => s x1))) (fun j hj ej _ _ _ _ t' h' m' p' => ?_) (fun j hj ej _ _ _ q => absurd (nI_i (by omega) (by omega) e ej ▸ hr) q) (fun j hj ej _ _ _ q => absurd (nI_i (by omega) (by omega) e ej ▸ hr) q)
    have ij := nI_i (by omega) (by omega) e ej
    subst ij
    have I' : Iv gc cnt op asr stp ops rl c pto ch lo hi mf (upd dl i (blk + 4)) ru lc hc md _ _ _ := ⟨i1, i2, i3, i4, i5, i6, i7, gq_dl q0, gq_dl q1, gq_dl q2, iA, G, gG, G3, G0, Gi, Gd⟩
    exact hQ 0 0 gc base trc op b rl c sm' sc' st' pto pam pr' pm' pcl' pj' t' h' m' p' _ ru _ _ _ _ (fun _ => ⟨fun _ => upL _ _ _, fun h => absurd rfl h⟩) I'
  · refine mp (fun h => absurd ⟨i, hi', e⟩ h) (fun j hj ej q => absurd (nI_i (by omega) (by omega) e ej ▸ hs) q) (fun _ _ _ _ s => absurd s (fun s => s.elim x0 (fun s => s x1))) (fun j hj ej _ _ _ q => absurd (nI_i (by omega) (by omega) e ej ▸ q) hr) (fun j hj ej _ _ _ _ _ t' h' m' p' => ?_) (fun j hj ej _ _ _ _ o1 o2 o3 => absurd hn (fun s => s.elim o1 (fun s => s.elim o2 (fun s => s (nI_i (by omega) (by omega) e ej ▸ o3)))))
    have ij := nI_i (by omega) (by omega) e ej
    subst ij
    have I' := Iv_ru J (ru' := upd ru i 0) (fun v => by
      by_cases w : v = i
      · subst w; exact Or.inl pk_us
      · exact Or.inr (up_ne w)) (gq_end (G := i) (d := blk + 4) q0) (gq_end (G := i) (d := blk + 4) q1) (gq_end (G := i) (d := blk + 4) q2)
    exact hQ 0 1 gc base trc op _ rl c sm' sc' st' pto pam pr' pm' pcl' pj' t' h' m' p' dl _ _ _ _ _ (fun _ => ⟨fun h => absurd h (by decide), fun _ => upL _ _ _⟩) I'
  · refine mp (fun h => absurd ⟨i, hi', e⟩ h) (fun j hj ej q => absurd (nI_i (by omega) (by omega) e ej ▸ hs) q) (fun _ _ _ _ s => absurd s (fun s => s.elim x0 (fun s => s x1))) (fun j hj ej _ _ _ q => absurd (nI_i (by omega) (by omega) e ej ▸ q) hr) (fun j hj ej _ _ _ _ s => absurd s (fun s => s.elim o1 (fun s => s.elim o2 (fun s => s (nI_i (by omega) (by omega) e ej ▸ o3))))) (fun j hj ej _ _ _ _ _ _ _ h' m' p' => ?_)
    have ij := nI_i (by omega) (by omega) e ej
    subst ij
    have p0 := spn_pc (ag := ag) (ws := ws) (cnt := cnt) (lim := wds) i1 K (hk rl h') trc (by rw [hk_i (by decide)]; exact i4)
    have p4 := spn_31 (ag := ag) (ws := ws) (cnt := cnt) (lim := wds) i1 K (hk rl h') trc (by rw [hk_i (by decide)]; exact i5)
    have pt := pp_to (ops := ops) (ag := ag) (ws := ws) (cnt := cnt) (lim := wds) K (hk rl hd) trc pto pam i7
    obtain ⟨s2, s1, s3⟩ := spn_e (ag := ag) (ws := ws) (cnt := cnt) (lim := wds) i1 K (hk rl hd) (hk rl h') trc pto pam (fun v hv => (hk_i hv).trans (hk_i hv).symm)
    rw [← s3]
    clear s3
    clear eL eT e1 e2 eR mp z
    generalize spn ops ag ws cnt wds K (hk rl hd) trc = S at *
    generalize spn ops ag ws cnt wds K (hk rl h') trc = S' at *
    generalize pp ops ag ws cnt wds K (hk rl hd) trc pto pam = P at *
    have w1 : mm S.1 S.2 = mm (hk S'.1 rl) S'.2 := by
      rw [hk_mm]
      show (S.1 0, S.1 1, S.1 2, S.1 3, S.1 4, S.2) = (S'.1 0, S'.1 1, S'.1 2, S'.1 3, S'.1 4, S'.2)
      rw [s1 0 (by decide), s1 1 (by decide), s1 2 (by decide), s1 3 (by decide), s1 4 (by decide), s2]
    have w4 : S.1 4 = hk S'.1 rl 4 := (s1 4 (by decide)).trans (hk_i (by decide)).symm
    rw [w1, w4]
    exact hQ 0 1 0 clm _ 0 _ _ c' sm' sc' st' _ _ pr' pm' pcl' pj' _ _ m' p' dl _ _ _ _ _ (fun _ => ⟨fun h => absurd h (by decide), fun _ => upL _ _ _⟩) (Iv_stand J (by rw [hk_i (by decide)]; exact p0) (by rw [hk_i (by decide)]; exact p4) (fun v h => by rw [hk_i (by omega), ← s1 (5 + v) (by omega)]; exact hc' v h) pt (gq_end (G := i) (d := blk + 4) q0) (gq_end (G := i) (d := blk + 4) q1) (gq_end (G := i) (d := blk + 4) q2))
/-! state, assertion, game -/
theorem l6 (k : Int32) : (k.toInt64 - 6).toInt = k.toInt - 6 := by
  have h1 := Int32.le_toInt k
  have h2 := Int32.toInt_lt k
  rw [Int64.toInt_sub, Int32.toInt_toInt64, show (6 : Int64).toInt = 6 by decide, Int.bmod_eq_of_le (by omega) (by omega)]
theorem g_state {gc : Int32} {pot : Int32} {blk : Int32} {cnt : Int32} {op : Int32} {str : Int32} {asr : Int32} {stp : Int32} {wds : Int32} {at' : Int32} {thr : Int32} {base : Int64} {trc : Int64} {htr : Int64} {clm : Int64} {ops : Nat → Int32} {rl : Nat → Int32} {c : Nat → Int32} {pto : Nat → Int32} {ch : Nat → Int32} {lo : Nat → Int32} {hi : Nat → Int32} {mf : Nat → Int32} {dl : Nat → Int32} {ru : Nat → Int32} {lc : Nat → Int64} {hc : Nat → Int64} {md : Nat → Int64} {g0 : ct_Ga} {g1 : ct_Ga} {g2 : ct_Ga} {k1 : Int32} {Q : Int64 → (ct_Sc × ct_Ma × (Nat → Int32)) → Int64 → (ct_Mo × (Nat → Int32)) → Prop} (I : Iv gc cnt op asr stp ops rl c pto ch lo hi mf dl ru lc hc md g0 g1 g2) (hQ : ∀ (r : Int64) , Iv gc cnt op asr stp ops rl c pto ch lo hi mf dl ru lc hc md g0 g1 g2 → Q r ((gc, pot, blk, base), mm rl trc, c) r ((0, str, pot, cnt, blk, trc, htr, base, op, asr, stp, wds, at', clm, gc), rl)) : wp_Sc_state (fun r u => wp_Mo_state (fun r' u' => Q r u r' u') ((thr, str, pot, cnt, blk, trc, htr, base, op, asr, stp, wds, at', clm, gc), rl) k1) ((gc, pot, blk, base), mm rl trc, c) k1 := by
  have z := fun r => hQ r I
  obtain ⟨i1, i2, i3, i4, i5, i6, -⟩ := I
  have cz : ∀ post : Int64 → (ct_Ma × (Nat → Int32)) → Prop, (k1 < 0 → post 0 (mm rl trc, c)) → (¬ k1 < 0 → ¬ k1 ≤ 13 → post 0 (mm rl trc, c)) → (¬ k1 < 0 → k1 ≤ 13 → 5 < k1 → post (rl (k1 - 1).toNatClampNeg).toInt64 (mm rl trc, c)) → (k1 < 0 ∨ 5 < k1) → wp_Ma_cellOrZero post (mm rl trc, c) (k1.toInt64 - 6) := by
    intro post p1 p2 p3 hk1
    refine ⟨fun h => ?_, fun h => ⟨fun h8 => ?_, fun h8 => ⟨vp_l8 (fun e => h (lg_lt.mpr e)) (fun e => h8 (lg_ge.mpr e)), ?_⟩⟩⟩
    · have h := Int64.lt_iff_toInt_lt.mp (lg_lt.mp h)
      rw [l6] at h
      refine p1 ?_
      rcases hk1 with q | q
      · exact q
      · have q := Int32.lt_iff_toInt_lt.mp q
        rw [show (5 : Int32).toInt = 5 by decide] at q
        rw [show (0 : Int64).toInt = 0 by decide] at h
        omega
    · have h8 := Int64.le_iff_toInt_le.mp (lg_ge.mp h8)
      rw [l6, show (8 : Int64).toInt = 8 by decide] at h8
      refine p2 (fun q => ?_) (fun q => ?_)
      · have q := Int32.lt_iff_toInt_lt.mp q
        rw [Int32.toInt_zero] at q
        omega
      · have q := Int32.le_iff_toInt_le.mp q
        rw [show (13 : Int32).toInt = 13 by decide] at q
        omega
    · have h : ¬ (k1.toInt64 - 6).toInt < 0 := fun e => h (lg_lt.mpr (Int64.lt_iff_toInt_lt.mpr e))
      have h8 : ¬ 8 ≤ (k1.toInt64 - 6).toInt := fun e => h8 (lg_ge.mpr (Int64.le_iff_toInt_le.mpr e))
      rw [l6] at h h8
      have n0 : ¬ k1 < 0 := fun q => by
        have q := Int32.lt_iff_toInt_lt.mp q
        rw [Int32.toInt_zero] at q
        omega
      have n13 : k1 ≤ 13 := Int32.le_iff_toInt_le.mpr (by rw [show (13 : Int32).toInt = 13 by decide]; omega)
      have n5 : 5 < k1 := Int32.lt_iff_toInt_lt.mpr (by rw [show (5 : Int32).toInt = 5 by decide]; omega)
      have fin := p3 n0 n13 n5
      obtain ⟨m, hm, rfl⟩ := nI_of2 (M := 13) (n := 13) (by decide) n0 n13
      have m5 : 5 < m := (nI_ltI (a := 5) (by decide) (by omega)).mp n5
      obtain ⟨w, rfl⟩ : ∃ w, m = 6 + w := ⟨m - 6, by omega⟩
      have e1 : ((nI (6 + w)).toInt64 - 6).toInt32 = nI w := by
        have : (nI (6 + w)).toInt64 - 6 = (nI w).toInt64 := Int64.toInt_inj.mp (by rw [l6, nI_toInt (by omega), Int32.toInt_toInt64, nI_toInt (by omega)]; omega)
        rw [this]
        exact Int32.toInt32_toInt64 _
      have e2 : nI (6 + w) - 1 = nI (5 + w) := by rw [show (1 : Int32) = nI 1 from rfl, pk_sub (by omega)]; exact congrArg nI (by omega)
      rw [e2, nI_clamp (by omega)] at fin
      rw [e1, nI_clamp (by omega)]
      show post (c w).toInt64 _
      rw [i6 w (by omega)]
      exact fin
  have hi5 : 5 < k1 → ¬ k1 = 5 ∧ 5 ≤ k1 := fun h => by
    have h := Int32.lt_iff_toInt_lt.mp h
    rw [show (5 : Int32).toInt = 5 by decide] at h
    refine ⟨fun e => ?_, Int32.le_iff_toInt_le.mpr (by rw [show (5 : Int32).toInt = 5 by decide]; omega)⟩
    rw [e] at h
    exact absurd h (by decide)
  have cell : (k1 < 0 ∨ 5 < k1) → wp_Ma_cellOrZero (fun r u => wp_Mo_state (fun r' u' => Q r ((gc, pot, blk, base), u.1, u.2) r' u') ((thr, str, pot, cnt, blk, trc, htr, base, op, asr, stp, wds, at', clm, gc), rl) k1) (mm rl trc, c) (k1.toInt64 - 6) := by
    intro hk1
    refine cz _ (fun a => ⟨fun _ => z 0, fun n => absurd a n⟩) (fun a b => ⟨fun n => absurd n a, fun _ => ⟨fun n => absurd n b, fun _ => z 0⟩⟩) (fun a b d => ⟨fun n => absurd n a, fun _ => ⟨fun _ => ⟨fun _ => ⟨fun n => absurd n (hi5 d).1, fun _ => ⟨?_, z _⟩⟩, fun n => absurd (hi5 d).2 n⟩, fun n => absurd b n⟩⟩) hk1
    obtain ⟨m, hm, rfl⟩ := nI_of2 (M := 13) (n := 13) (by decide) a b
    have m5 : 5 < m := (nI_ltI (a := 5) (by decide) (by omega)).mp d
    rw [show (1 : Int32) = nI 1 from rfl, pk_sub (by omega)]
    exact vp_in_nI (by omega) (by decide)
  have low : ∀ m, m < 5 → k1 = nI m → wp_Mo_state (fun r' u' => Q (rl m).toInt64 ((gc, pot, blk, base), mm rl trc, c) r' u') ((thr, str, pot, cnt, blk, trc, htr, base, op, asr, stp, wds, at', clm, gc), rl) k1 := by
    intro m hm e
    subst e
    refine ⟨fun n => absurd n (nI_pos (by omega)), fun _ => ⟨fun _ => ⟨fun n => absurd ((nI_leI (a := 5) (by decide) (by omega)).mp n) (by omega), fun _ => ⟨vp_in_nI (by omega) (by decide), ?_⟩⟩, fun n => absurd (nI_le (b := 13) (by omega) (by decide)) n⟩⟩
    show Q _ _ (rl (nI m).toNatClampNeg).toInt64 _
    rw [nI_clamp (by omega)]
    exact z _
  refine ⟨fun e => cell (Or.inl e), fun e => ⟨fun e5 => cell (Or.inr e5), fun e5 => ⟨fun e => low 0 (by decide) e, fun _ => ⟨fun e => low 1 (by decide) e, fun _ => ⟨fun e => low 2 (by decide) e, fun _ => ⟨fun e => low 3 (by decide) e, fun _ => ⟨fun e => low 4 (by decide) e, fun _ => ⟨fun e => ?_, fun _ => trivial⟩⟩⟩⟩⟩⟩⟩⟩
  subst e
  exact ⟨fun n => absurd n (by decide), fun _ => ⟨fun _ => ⟨fun _ => ⟨fun _ => z _, fun n => absurd rfl n⟩, fun n => absurd (by decide) n⟩, fun n => absurd (by decide) n⟩⟩
theorem g_assertion {gc : Int32} {pot : Int32} {blk : Int32} {cnt : Int32} {op : Int32} {str : Int32} {asr : Int32} {stp : Int32} {wds : Int32} {at' : Int32} {thr : Int32} {base : Int64} {trc : Int64} {htr : Int64} {clm : Int64} {ops : Nat → Int32} {rl : Nat → Int32} {c : Nat → Int32} {pto : Nat → Int32} {ch : Nat → Int32} {lo : Nat → Int32} {hi : Nat → Int32} {mf : Nat → Int32} {dl : Nat → Int32} {ru : Nat → Int32} {lc : Nat → Int64} {hc : Nat → Int64} {md : Nat → Int64} {g0 : ct_Ga} {g1 : ct_Ga} {g2 : ct_Ga} {k1 : Int32} {Q : Int64 → (ct_Sc × ct_As × ct_Ga × ct_Ga × ct_Ga) → Int64 → (ct_Mo × (Nat → Int32)) → Prop} (I : Iv gc cnt op asr stp ops rl c pto ch lo hi mf dl ru lc hc md g0 g1 g2) (hQ : ∀ (r : Int64) , Iv gc cnt op asr stp ops rl c pto ch lo hi mf dl ru lc hc md g0 g1 g2 → Q r ((gc, pot, blk, base), (op, str, asr, stp, wds, at', clm), g0, g1, g2) r ((0, str, pot, cnt, blk, trc, htr, base, op, asr, stp, wds, at', clm, gc), ru)) : wp_Sc_assertion (fun r u => wp_Mo_assertion (fun r' u' => Q r u r' u') ((thr, str, pot, cnt, blk, trc, htr, base, op, asr, stp, wds, at', clm, gc), ru) k1) ((gc, pot, blk, base), (op, str, asr, stp, wds, at', clm), g0, g1, g2) k1 := by
  have z := fun r => hQ r I
  obtain ⟨i1, i2, i3, i4, i5, i6, i7, q0, q1, q2, iA, G, gG, G3, G0, Gi, Gd⟩ := I
  have n6 : ∀ {k : Int32}, ¬ 6 < k → k ≤ 6 := fun h => i_le_nlt.mpr h
  refine ⟨fun e => ⟨fun _ => z _, fun n => absurd e n⟩, fun e => ⟨fun e0 => ⟨fun n => absurd n e, fun _ => ⟨fun _ => z _, fun n => absurd e0 n⟩⟩, fun e0 => ⟨fun e6 => ⟨fun n => absurd n e, fun _ => ⟨fun n => absurd n e0, fun _ => ⟨fun n => absurd e6 (i_le_nlt.mp n), fun _ => z _⟩⟩⟩, fun e6 => ?_⟩⟩⟩
  have hd : ∀ r, _ → wp_Mo_assertion (fun r' u' => Q r ((gc, pot, blk, base), (op, str, asr, stp, wds, at', clm), g0, g1, g2) r' u') ((thr, str, pot, cnt, blk, trc, htr, base, op, asr, stp, wds, at', clm, gc), ru) k1 := fun r p => ⟨fun n => absurd n e, fun _ => ⟨fun n => absurd n e0, fun _ => ⟨fun _ => p, fun n => absurd (n6 e6) n⟩⟩⟩
  refine ⟨fun e => hd _ ⟨fun _ => z _, fun n => absurd e n⟩, fun m0 => ⟨fun e => hd _ ⟨fun n => absurd n m0, fun _ => ⟨fun _ => z _, fun n => absurd e n⟩⟩, fun m1 => ⟨fun e => hd _ ⟨fun n => absurd n m0, fun _ => ⟨fun n => absurd n m1, fun _ => ⟨fun _ => z _, fun n => absurd e n⟩⟩⟩, fun m2 => ⟨fun e => hd _ ⟨fun n => absurd n m0, fun _ => ⟨fun n => absurd n m1, fun _ => ⟨fun n => absurd n m2, fun _ => ⟨fun _ => z _, fun n => absurd e n⟩⟩⟩⟩, fun m3 => ⟨fun e => hd _ ⟨fun n => absurd n m0, fun _ => ⟨fun n => absurd n m1, fun _ => ⟨fun n => absurd n m2, fun _ => ⟨fun n => absurd n m3, fun _ => ⟨fun _ => z _, fun n => absurd e n⟩⟩⟩⟩⟩, fun m4 => ⟨fun e => hd _ ⟨fun n => absurd n m0, fun _ => ⟨fun n => absurd n m1, fun _ => ⟨fun n => absurd n m2, fun _ => ⟨fun n => absurd n m3, fun _ => ⟨fun n => absurd n m4, fun _ => ⟨fun _ => z _, fun n => absurd e n⟩⟩⟩⟩⟩⟩, fun m5 => ⟨fun e => ?_, fun _ => trivial⟩⟩⟩⟩⟩⟩⟩
  exact st_cr (ru := ru) gG G3 q0.2.2.2.2.2.2.2.2 q1.2.2.2.2.2.2.2.2 q2.2.2.2.2.2.2.2.2 (hd _ ⟨fun n => absurd n m0, fun _ => ⟨fun n => absurd n m1, fun _ => ⟨fun n => absurd n m2, fun _ => ⟨fun n => absurd n m3, fun _ => ⟨fun n => absurd n m4, fun _ => ⟨fun n => absurd n m5, fun _ => st_mcr gG G3 (z _)⟩⟩⟩⟩⟩⟩)
theorem g_game {gc : Int32} {pot : Int32} {blk : Int32} {cnt : Int32} {op : Int32} {str : Int32} {asr : Int32} {stp : Int32} {wds : Int32} {at' : Int32} {thr : Int32} {base : Int64} {trc : Int64} {htr : Int64} {clm : Int64} {ops : Nat → Int32} {rl : Nat → Int32} {c : Nat → Int32} {pto : Nat → Int32} {ch : Nat → Int32} {lo : Nat → Int32} {hi : Nat → Int32} {mf : Nat → Int32} {dl : Nat → Int32} {ru : Nat → Int32} {lc : Nat → Int64} {hc : Nat → Int64} {md : Nat → Int64} {g0 : ct_Ga} {g1 : ct_Ga} {g2 : ct_Ga} {k1 : Int32} {k2 : Int32} {Q : Int64 → (ct_Sc × ct_Ga × ct_Ga × ct_Ga) → Int64 → (ct_Mo × (Nat → Int32) × (Nat → Int32) × (Nat → Int32) × (Nat → Int64) × (Nat → Int64) × (Nat → Int32) × (Nat → Int64) × (Nat → Int32) × (Nat → Int32)) → Prop} (I : Iv gc cnt op asr stp ops rl c pto ch lo hi mf dl ru lc hc md g0 g1 g2) (hQ : ∀ r r' : Int64, Q r ((gc, pot, blk, base), g0, g1, g2) r' ((0, str, pot, cnt, blk, trc, htr, base, op, asr, stp, wds, at', clm, gc), ch, lo, hi, lc, hc, mf, md, dl, ru)) : wp_Sc_game (fun r u => wp_Mo_game (fun r' u' => Q r u r' u') ((thr, str, pot, cnt, blk, trc, htr, base, op, asr, stp, wds, at', clm, gc), ch, lo, hi, lc, hc, mf, md, dl, ru) k1 k2) ((gc, pot, blk, base), g0, g1, g2) k1 k2 := by
  obtain ⟨i1, i2, i3, i4, i5, i6, i7, q0, q1, q2, iA, G, gG, G3, G0, Gi, Gd⟩ := I
  have R : ∀ r, wp_Mo_game (fun r' u' => Q r ((gc, pot, blk, base), g0, g1, g2) r' u') ((thr, str, pot, cnt, blk, trc, htr, base, op, asr, stp, wds, at', clm, gc), ch, lo, hi, lc, hc, mf, md, dl, ru) k1 k2 := by
    intro r
    refine st_misG gG G3 G0 (fun _ => ⟨fun _ => hQ _ _, fun n => absurd rfl n⟩) (fun i hi' e => ⟨fun n => absurd n (by decide), fun _ => ⟨fun _ => hQ _ _, fun _ => ⟨fun _ => ⟨fun _ => ?_, fun _ => ⟨fun _ => ?_, fun _ => ?_⟩⟩, fun _ => hQ _ _⟩⟩⟩)
    · rw [e]; exact st_due (by omega) (hQ _ _)
    · rw [e]; exact st_due (by omega) (hQ _ _)
    · have v : vp_in k1 3 := by rw [e]; exact vp_in_nI (by omega) (by decide)
      exact ⟨fun _ => ⟨v, hQ _ _⟩, fun _ => ⟨fun _ => ⟨v, hQ _ _⟩, fun _ => ⟨fun _ => ⟨v, hQ _ _⟩, fun _ => ⟨fun _ => ⟨v, hQ _ _⟩, fun _ => ⟨fun _ => ⟨v, hQ _ _⟩, fun _ => ⟨fun _ => ⟨v, hQ _ _⟩, fun _ => ⟨fun _ => ⟨v, hQ _ _⟩, fun _ => trivial⟩⟩⟩⟩⟩⟩⟩
  refine st_isG gG G3 (fun _ => ⟨fun _ => R _, fun n => absurd rfl n⟩) (fun i hi' e => ⟨fun n => absurd n (by decide), fun _ => ⟨by rw [e]; exact vp_in_nI (by omega) (by decide), fun e0 => ?_, fun e0 => ?_, fun e0 => ?_⟩⟩)
  · have i0 : i = 0 := by rw [e, nI_clamp (by omega)] at e0; exact e0
    subst i0
    refine ⟨fun _ => R _, fun _ => ⟨fun _ => R _, fun _ => ⟨fun _ => R _, fun _ => ⟨fun _ => R _, fun _ => ⟨fun _ => R _, fun _ => ⟨fun _ => R _, fun _ => ⟨fun _ => R _, fun _ => ⟨fun _ => R _, fun _ => ⟨fun _ => R _, fun _ => ⟨fun _ => st_duty ?_ (R _), fun _ => trivial⟩⟩⟩⟩⟩⟩⟩⟩⟩⟩
    rw [q0.2.1, q0.2.2.1, q0.2.2.2.2.2.2.1, q0.2.2.2.2.2.2.2.2]
    exact (Gi 0 hi').2.2.2
  · have i0 : i = 1 := by rw [e, nI_clamp (by omega)] at e0; exact e0
    subst i0
    refine ⟨fun _ => R _, fun _ => ⟨fun _ => R _, fun _ => ⟨fun _ => R _, fun _ => ⟨fun _ => R _, fun _ => ⟨fun _ => R _, fun _ => ⟨fun _ => R _, fun _ => ⟨fun _ => R _, fun _ => ⟨fun _ => R _, fun _ => ⟨fun _ => R _, fun _ => ⟨fun _ => st_duty ?_ (R _), fun _ => trivial⟩⟩⟩⟩⟩⟩⟩⟩⟩⟩
    rw [q1.2.1, q1.2.2.1, q1.2.2.2.2.2.2.1, q1.2.2.2.2.2.2.2.2]
    exact (Gi 1 hi').2.2.2
  · have i0 : i = 2 := by rw [e, nI_clamp (by omega)] at e0; exact e0
    subst i0
    refine ⟨fun _ => R _, fun _ => ⟨fun _ => R _, fun _ => ⟨fun _ => R _, fun _ => ⟨fun _ => R _, fun _ => ⟨fun _ => R _, fun _ => ⟨fun _ => R _, fun _ => ⟨fun _ => R _, fun _ => ⟨fun _ => R _, fun _ => ⟨fun _ => R _, fun _ => ⟨fun _ => st_duty ?_ (R _), fun _ => trivial⟩⟩⟩⟩⟩⟩⟩⟩⟩⟩
    rw [q2.2.1, q2.2.2.1, q2.2.2.2.2.2.2.1, q2.2.2.2.2.2.2.2.2]
    exact (Gi 2 hi').2.2.2
