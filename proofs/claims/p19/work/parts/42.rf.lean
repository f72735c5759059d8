/-! five calls after which class and reference answer otherwise: the deadline of a game that a proof has ended -/
theorem r_claim {gc : Int32} {pot : Int32} {blk : Int32} {cnt : Int32} {op : Int32} {str : Int32} {asr : Int32} {stp : Int32} {wds : Int32} {at' : Int32} {thr : Int32} {base : Int64} {trc : Int64} {htr : Int64} {clm : Int64} {b : Nat → Int32} {ops : Nat → Int32} {ag : Nat → Int32} {ws : Nat → Int32} {rl : Nat → Int32} {hd : Nat → Int32} {c : Nat → Int32} {sc : Nat → Int32} {pto : Nat → Int32} {ch : Nat → Int32} {lo : Nat → Int32} {hi : Nat → Int32} {mf : Nat → Int32} {dl : Nat → Int32} {ru : Nat → Int32} {st : Nat → Int64} {lc : Nat → Int64} {hc : Nat → Int64} {md : Nat → Int64} {mt : Nat → Int64} {out : Nat → Int64} {sm : ct_Ma} {g0 : ct_Ga} {g1 : ct_Ga} {g2 : ct_Ga} {k1 : Int32} {k2 : Int32} {k3 : Int64} {Q : Int32 → (ct_Sc × (Nat → Int32) × (Nat → Int32) × (Nat → Int32) × ct_In × (Nat → Int32) × ct_Ma × (Nat → Int32) × ct_Ma × (Nat → Int32) × (Nat → Int64) × ct_As × (Nat → Int64)) → Int64 → (ct_Mo × (Nat → Int32) × (Nat → Int32) × (Nat → Int32) × (Nat → Int32) × (Nat → Int32) × (Nat → Int32) × (Nat → Int64)) → Prop} (I : Iv gc cnt op asr stp ops rl c pto ch lo hi mf dl ru lc hc md g0 g1 g2) (gz : gc = 0) (hop : op = 0) (hq : vp_in k1 4) (K : Nat) (hk2 : k2 = nI K) (K1 : 1 ≤ K) (hK : K ≤ 64) (e2 : ¬ k2 < 1) (e3 : k2 ≤ 64) (e4 : 100 ≤ b k1.toNatClampNeg) (hQ : ∀ (htr' : Int64) (hd' : Nat → Int32) (mt' : Nat → Int64) (sm' : ct_Ma) (sc' : Nat → Int32) (st' : Nat → Int64) (f : Int64), f = cv (spn ops ag ws cnt cnt K (hk rl hd) trc).1 (spn ops ag ws cnt cnt K (hk rl hd) trc).2 ^^^ k3 → Iv gc cnt 1 k1 k2 ops rl c pto ch lo hi mf dl ru lc hc md g0 g1 g2 → Q 0 ((gc, pot, blk, base), upd b k1.toNatClampNeg (b k1.toNatClampNeg - 100), ops, ag, cnt, ws, mm rl trc, c, sm', sc', st', (1, 1, k1, k2, cnt, blk, f), vp_updL out 0 f) f ((0, 1, pot, cnt, blk, trc, htr', base, 1, k1, k2, cnt, blk, f, gc), ops, ag, upd b k1.toNatClampNeg (b k1.toNatClampNeg - 100), ws, rl, hd', mt')) : wp_La_claim (fun r u => wp_Mo_claim (fun r' u' => Q r u r' u') ((thr, str, pot, cnt, blk, trc, htr, base, op, asr, stp, wds, at', clm, gc), ops, ag, b, ws, rl, hd, mt) k1 k2 k3) (fun _ _ => False) ((gc, pot, blk, base), b, ops, ag, cnt, ws, mm rl trc, c, sm, sc, st, (op, str, asr, stp, wds, at', clm), out) k1 k2 k3 := by
  subst gz
  subst hk2
  unfold wp_La_claim wp_Sc_claim
  refine st_req (fun h => absurd hq h) (fun _ => ⟨fun _ => ⟨fun h => absurd h e2, fun _ => ⟨fun _ => ⟨hq, fun _ => ?_, fun h => absurd e4 h⟩, fun h => absurd e3 h⟩⟩, fun h => absurd hop h⟩)
  refine ⟨hq, fun f ef => ⟨hq, ?_⟩⟩
  subst ef
  have I' : Iv 0 cnt 1 k1 (nI K) ops rl c pto ch lo hi mf dl ru lc hc md g0 g1 g2 := ⟨I.1, I.2.1, I.2.2.1, I.2.2.2.1, I.2.2.2.2.1, I.2.2.2.2.2.1, I.2.2.2.2.2.2.1, I.2.2.2.2.2.2.2.1, I.2.2.2.2.2.2.2.2.1, I.2.2.2.2.2.2.2.2.2.1, fun _ => ⟨hq, K, rfl, K1, hK⟩, 0, rfl, by omega, fun _ => rfl, fun i hi => absurd hi (by omega), fun i j _ hj => absurd hj (by omega)⟩
  unfold wp_As_open
  refine st_tc (K := K) hd (by omega) I.1 I.2.2.1 I.2.2.2.1 I.2.2.2.2.2.1 cnt ?_ (fun sm' sc' st' => ?_)
  · show cnt = if (1 : Int32) = 0 then cnt else cnt
    simp
  intro f14 e14
  refine st_misP (fun h2 => absurd hq h2) (fun _ => ⟨fun h => absurd h (by decide), fun _ => ⟨fun _ => ⟨fun h => absurd h e2, fun _ => ⟨fun _ => ⟨hq, fun _ => ?_, fun h => absurd e4 h⟩, fun h => absurd e3 h⟩⟩, fun h => absurd hop h⟩⟩)
  refine st_mtc (K := K) (by omega) I.1 I.2.2.1 I.2.2.2.1 cnt (by rw [if_pos hop]) (fun t' hd' mt' => ?_)
  intro f13 e13
  have ee : f13 = f14 := e13.trans e14.symm
  refine ⟨hq, fun f15 e15 => ⟨hq, ?_⟩⟩
  subst e15
  rw [ee]
  exact hQ t' hd' mt' sm' sc' st' f14 e14 I'
theorem r_challenge {gc : Int32} {pot : Int32} {blk : Int32} {cnt : Int32} {op : Int32} {str : Int32} {asr : Int32} {stp : Int32} {wds : Int32} {at' : Int32} {thr : Int32} {base : Int64} {trc : Int64} {htr : Int64} {clm : Int64} {b : Nat → Int32} {ops : Nat → Int32} {rl : Nat → Int32} {c : Nat → Int32} {pto : Nat → Int32} {ch : Nat → Int32} {lo : Nat → Int32} {hi : Nat → Int32} {mf : Nat → Int32} {dl : Nat → Int32} {ru : Nat → Int32} {lc : Nat → Int64} {hc : Nat → Int64} {md : Nat → Int64} {out : Nat → Int64} {g0 : ct_Ga} {g1 : ct_Ga} {g2 : ct_Ga} {k : Int32} {Q : Int32 → (ct_Sc × (Nat → Int32) × ct_As × ct_Ga × ct_Ga × ct_Ga × (Nat → Int64)) → Int32 → (ct_Mo × (Nat → Int32) × (Nat → Int32) × (Nat → Int32) × (Nat → Int32) × (Nat → Int64) × (Nat → Int64) × (Nat → Int32) × (Nat → Int64) × (Nat → Int32) × (Nat → Int32)) → Prop} (I : Iv gc cnt op asr stp ops rl c pto ch lo hi mf dl ru lc hc md g0 g1 g2) (gG : gc = nI 0) (h1 : vp_in k 4) (h2 : ¬ op = 0) (h3 : ¬ k = asr) (h5 : 100 ≤ b k.toNatClampNeg) (hQ : ∀ (f : Int64), f = (gc + 1 - 1).toInt64 → Iv (gc + 1) cnt op asr stp ops rl c pto (upd ch 0 k) (upd lo 0 0) (upd hi 0 stp) (upd mf 0 0) (upd dl 0 (blk + 4)) (upd ru 0 1) (vp_updL lc 0 base) (vp_updL hc 0 clm) (vp_updL md 0 0) ((k, 0, stp, base, clm, 0, 0, blk + 4, 1)) g1 g2 → Q 0 ((gc + 1, pot, blk, base), upd b k.toNatClampNeg (b k.toNatClampNeg - 100), (op, str, asr, stp, wds, at', clm), (k, 0, stp, base, clm, 0, 0, blk + 4, 1), g1, g2, vp_updL out 0 f) (gc + 1 - 1) ((0, str, pot, cnt, blk, trc, htr, base, op, asr, stp, wds, at', clm, gc + 1), upd b k.toNatClampNeg (b k.toNatClampNeg - 100), upd ch 0 k, upd lo 0 0, upd hi 0 stp, vp_updL lc 0 base, vp_updL hc 0 clm, upd mf 0 0, vp_updL md 0 0, upd dl 0 (blk + 4), upd ru 0 1)) : wp_La_challenge (fun r u => wp_Mo_challenge (fun r' u' => Q r u r' u') ((thr, str, pot, cnt, blk, trc, htr, base, op, asr, stp, wds, at', clm, gc), b, ch, lo, hi, lc, hc, mf, md, dl, ru) k) (fun _ _ => False) ((gc, pot, blk, base), b, (op, str, asr, stp, wds, at', clm), g0, g1, g2, out) k := by
  obtain ⟨i1, i2, i3, i4, i5, i6, i7, q0, q1, q2, iA, -⟩ := I
  have hG3 : vp_in k 4 → ¬ op = 0 → ¬ k = asr → fd ch k 0 = 0 → 0 < 3 := fun _ _ _ _ => by omega
  unfold wp_La_challenge
  refine st_chal ch 0 gG (by omega) q0.1 q1.1 q2.1 hG3 (fun h => absurd h1 h) (fun _ s => absurd s (fun s => s.elim h2 (fun s => s.elim h3 (fun s => s rfl)))) (fun _ _ _ _ q => absurd h5 q) (fun _ _ _ _ _ => ?_)
  intro f4 e4
  obtain ⟨aA, K, eK, K1, K64⟩ := iA h2
  have I' : Iv (gc + 1) cnt op asr stp ops rl c pto (upd ch 0 k) (upd lo 0 0) (upd hi 0 stp) (upd mf 0 0) (upd dl 0 (blk + 4)) (upd ru 0 1) (vp_updL lc 0 base) (vp_updL hc 0 clm) (vp_updL md 0 0) (k, 0, stp, base, clm, 0, 0, blk + 4, 1) g1 g2 := by
    have w0 := gq_new (G := 0) (a := k) (l := 0) (h := stp) (f := 0) (d := blk + 4) (r := 1) (x := base) (y := clm) (m := 0) q0
    have w1 := gq_new (G := 0) (a := k) (l := 0) (h := stp) (f := 0) (d := blk + 4) (r := 1) (x := base) (y := clm) (m := 0) q1
    have w2 := gq_new (G := 0) (a := k) (l := 0) (h := stp) (f := 0) (d := blk + 4) (r := 1) (x := base) (y := clm) (m := 0) q2
    rw [if_pos rfl] at w0
    rw [if_neg (by decide)] at w1 w2
    refine ⟨i1, i2, i3, i4, i5, i6, i7, w0, w1, w2, iA, 1, by rw [gG, nI_1], by omega, fun e => absurd e h2, fun i hi' => ?_, fun i j hij hj => absurd hij (by omega)⟩
    have e : i = 0 := by omega
    subst e
    rw [pk_us, pk_us, pk_us, pk_us, pk_us]
    exact ⟨h1, h3, ⟨0, K, rfl, eK, by omega, K64⟩, fun _ n => absurd rfl n⟩
  exact st_mchal 0 gG (by omega) hG3 (fun q => absurd h1 q) (fun _ s => absurd s (fun s => s.elim h2 (fun s => s.elim h3 (fun s => s rfl)))) (fun _ _ _ _ q => absurd h5 q) (fun _ _ _ _ _ => hQ f4 e4 I')
theorem r_block {gc : Int32} {pot : Int32} {blk : Int32} {cnt : Int32} {op : Int32} {str : Int32} {asr : Int32} {stp : Int32} {wds : Int32} {at' : Int32} {thr : Int32} {base : Int64} {trc : Int64} {htr : Int64} {clm : Int64} {b : Nat → Int32} {ops : Nat → Int32} {ag : Nat → Int32} {ws : Nat → Int32} {rl : Nat → Int32} {hd : Nat → Int32} {c : Nat → Int32} {pto : Nat → Int32} {pam : Nat → Int32} {ch : Nat → Int32} {lo : Nat → Int32} {hi : Nat → Int32} {mf : Nat → Int32} {dl : Nat → Int32} {ru : Nat → Int32} {lc : Nat → Int64} {hc : Nat → Int64} {md : Nat → Int64} {g0 : ct_Ga} {g1 : ct_Ga} {g2 : ct_Ga}  {Q : Int32 → (ct_Sc × (Nat → Int32) × (Nat → Int32) × (Nat → Int32) × ct_In × (Nat → Int32) × ct_Ma × (Nat → Int32) × ct_Pa × (Nat → Int32) × (Nat → Int32) × ct_As × ct_Ga × ct_Ga × ct_Ga) → Int32 → (ct_Mo × (Nat → Int32) × (Nat → Int32) × (Nat → Int32) × (Nat → Int32) × (Nat → Int32) × (Nat → Int32) × (Nat → Int32) × (Nat → Int32) × (Nat → Int32) × (Nat → Int32) × (Nat → Int32) × (Nat → Int32) × (Nat → Int32) × (Nat → Int32)) → Prop} (I : Iv gc cnt op asr stp ops rl c pto ch lo hi mf dl ru lc hc md g0 g1 g2) (hE : ∀ G, gc = nI G → G ≤ 3 → el (blk + 1) asr mf dl ch G G 0 b ru = (false, b, ru)) (hn : blk + 1 < at' + 12) (hQ : Iv gc cnt op asr stp ops rl c pto ch lo hi mf dl ru lc hc md (gset g0 (ru 0)) (gset g1 (ru 1)) (gset g2 (ru 2)) → Q (blk + 1) ((gc, pot, blk + 1, base), b, ops, ag, cnt, ws, mm rl trc, c, rl 4, pto, pam, (op, str, asr, stp, wds, at', clm), gset g0 (ru 0), gset g1 (ru 1), gset g2 (ru 2)) (blk + 1) ((0, str, pot, cnt, blk + 1, trc, htr, base, op, asr, stp, wds, at', clm, gc), ops, ag, b, ws, rl, hd, pto, pam, ch, lo, hi, mf, dl, ru)) : wp_Sc_block (fun r u => wp_Mo_block (fun r' u' => Q r u r' u') ((thr, str, pot, cnt, blk, trc, htr, base, op, asr, stp, wds, at', clm, gc), ops, ag, b, ws, rl, hd, pto, pam, ch, lo, hi, mf, dl, ru)) ((gc, pot, blk, base), b, ops, ag, cnt, ws, mm rl trc, c, rl 4, pto, pam, (op, str, asr, stp, wds, at', clm), g0, g1, g2) := by
  have J := I
  obtain ⟨i1, i2, i3, i4, i5, i6, i7, q0, q1, q2, iA, G, gG, G3, G0, Gi, Gd⟩ := I
  obtain ⟨K, hop⟩ := Iv_K iA
  have e := (hE G gG G3).symm
  have r : ∀ i, ru i = 0 ∨ ru i = ru i := fun i => Or.inr rfl
  have hch : ∀ j, j < G → vp_in (ch j) 4 := fun j h => (Gi j h).1
  have ha : 0 < G → vp_in asr 4 := fun h => (iA (fun e => absurd (G0 e) (by omega))).1
  have e0 := gq_run q0 (r 0)
  have e1 := gq_run q1 (r 1)
  have e2 := gq_run q2 (r 2)
  refine st_block hd ru mf dl ch G K gG G3 ha hch q0.1 q1.1 q2.1 q0.2.2.2.2.2.2.1 q1.2.2.2.2.2.2.1 q2.2.2.2.2.2.2.1 q0.2.2.2.2.2.2.2.2 q1.2.2.2.2.2.2.2.2 q2.2.2.2.2.2.2.2.2 ?_ i1 i3 i4 i5 i6 hop (false, b, ru) e (fun a => absurd a Bool.false_ne_true) (fun a n => ?_) (fun a o1 o2 => absurd hn o2)
  · intro k hk' nr
    refine ⟨fun e => ?_, fun e => ?_, fun e => ?_⟩
    · subst e; exact ⟨q0.2.2.2.2.2.2.2.1 nr, fun m => by rw [q0.2.1, q0.2.2.1]; exact (Gi 0 hk').2.2.2 nr m⟩
    · subst e; exact ⟨q1.2.2.2.2.2.2.2.1 nr, fun m => by rw [q1.2.1, q1.2.2.1]; exact (Gi 1 hk').2.2.2 nr m⟩
    · subst e; exact ⟨q2.2.2.2.2.2.2.2.1 nr, fun m => by rw [q2.2.1, q2.2.2.1]; exact (Gi 2 hk').2.2.2 nr m⟩
  · exact st_mblock G K gG G3 G0 hch i1 i3 i4 i5 hop (false, b, ru) e (fun a => absurd a Bool.false_ne_true) (fun _ _ => hQ (Iv_ru J r e0 e1 e2)) (fun _ o1 o2 => absurd hn o2)
theorem r_prove {gc : Int32} {pot : Int32} {blk : Int32} {cnt : Int32} {op : Int32} {str : Int32} {asr : Int32} {stp : Int32} {wds : Int32} {at' : Int32} {thr : Int32} {base : Int64} {trc : Int64} {htr : Int64} {clm : Int64} {b : Nat → Int32} {ops : Nat → Int32} {ag : Nat → Int32} {ws : Nat → Int32} {rl : Nat → Int32} {hd : Nat → Int32} {c : Nat → Int32} {sc : Nat → Int32} {pto : Nat → Int32} {pam : Nat → Int32} {pcl : Nat → Int32} {ch : Nat → Int32} {lo : Nat → Int32} {hi : Nat → Int32} {mf : Nat → Int32} {dl : Nat → Int32} {ru : Nat → Int32} {st : Nat → Int64} {pj : Nat → Int64} {lc : Nat → Int64} {hc : Nat → Int64} {md : Nat → Int64} {mt : Nat → Int64} {mpth : Nat → Int64} {out : Nat → Int64} {sm : ct_Ma} {pm : ct_Ma} {pr : ct_Pr} {g0 : ct_Ga} {g1 : ct_Ga} {g2 : ct_Ga} {k : Int32} {k2 : Int32} {k3 : Int32} {Q : Int32 → (ct_Sc × (Nat → Int32) × (Nat → Int32) × (Nat → Int32) × ct_In × (Nat → Int32) × ct_Ma × (Nat → Int32) × ct_Ma × (Nat → Int32) × (Nat → Int64) × ct_Pa × (Nat → Int32) × (Nat → Int32) × ct_Pr × ct_Ma × (Nat → Int32) × (Nat → Int64) × ct_As × ct_Ga × ct_Ga × ct_Ga × (Nat → Int64)) → Int32 → (ct_Mo × (Nat → Int32) × (Nat → Int32) × (Nat → Int32) × (Nat → Int32) × (Nat → Int32) × (Nat → Int32) × (Nat → Int32) × (Nat → Int32) × (Nat → Int32) × (Nat → Int32) × (Nat → Int64) × (Nat → Int64) × (Nat → Int32) × (Nat → Int32) × (Nat → Int32) × (Nat → Int64) × (Nat → Int64)) → Prop} (I : Iv gc cnt op asr stp ops rl c pto ch lo hi mf dl ru lc hc md g0 g1 g2) (gG : gc = nI 1) (hk0 : k = nI 0) (d3 : dv (lo 0) (hi 0) (mf 0) (ru 0) = 3) (x0 : ¬ k2 < 0) (x1 : k2 ≤ 10) (l0 : lo 0 = nI 0) (hj : (hk rl hd) 2 &&& 7 = nI 0) (V1 V2 : Int64) (e1 : V1 = cp (pH (hk rl hd) 0 k2 k3) (aT trc k2 k3) (aP (sbv (hk rl hd) 0) k2 k3) (aH (hk rl hd) k2 k3 2 &&& 7)) (e2 : V2 = cp (sp ops ag ws cnt wds (pH (hk rl hd) 0 k2 k3) (aT trc k2 k3)).1 (sp ops ag ws cnt wds (pH (hk rl hd) 0 k2 k3) (aT trc k2 k3)).2 (aP (sbv (hk rl hd) 0) k2 k3) (aH (hk rl hd) k2 k3 2 &&& 7)) (hR : ¬ pv V1 (lc 0) V2 (hc 0) ((pH (hk rl hd) 0 k2 k3) 0) = 0) (hn : blk < at' + 12) (hQ : ∀ (sm' : ct_Ma) (sc' : Nat → Int32) (st' : Nat → Int64) (pr' : ct_Pr) (pm' : ct_Ma) (pcl' : Nat → Int32) (pj' : Nat → Int64) (htr' : Int64) (hd' : Nat → Int32) (mt' : Nat → Int64) (mpth' : Nat → Int64), Iv gc cnt op asr stp ops rl c pto ch lo hi mf dl (upd ru 0 0) lc hc md ((g0.1, g0.2.1, g0.2.2.1, g0.2.2.2.1, g0.2.2.2.2.1, g0.2.2.2.2.2.1, g0.2.2.2.2.2.2.1, blk + 4, 0)) g1 g2 → Q 0 ((gc, pot, blk, base), upd b asr.toNatClampNeg (b asr.toNatClampNeg + 100), ops, ag, cnt, ws, mm rl trc, c, sm', sc', st', rl 4, pto, pam, pr', pm', pcl', pj', (op, str, asr, stp, wds, at', clm), (g0.1, g0.2.1, g0.2.2.1, g0.2.2.2.1, g0.2.2.2.2.1, g0.2.2.2.2.2.1, g0.2.2.2.2.2.2.1, blk + 4, 0), g1, g2, vp_updL out 0 1) 1 ((0, str, pot, cnt, blk, trc, htr', base, op, asr, stp, wds, at', clm, gc), ops, ag, upd b asr.toNatClampNeg (b asr.toNatClampNeg + 100), ws, rl, hd', pto, pam, lo, hi, lc, hc, mf, dl, upd ru 0 0, mt', mpth')) : wp_La_prove (fun r u => wp_Mo_prove (fun r' u' => Q r u r' u') ((thr, str, pot, cnt, blk, trc, htr, base, op, asr, stp, wds, at', clm, gc), ops, ag, b, ws, rl, hd, pto, pam, lo, hi, lc, hc, mf, dl, ru, mt, mpth) k k2 k3) (fun _ _ => False) ((gc, pot, blk, base), b, ops, ag, cnt, ws, mm rl trc, c, sm, sc, st, rl 4, pto, pam, pr, pm, pcl, pj, (op, str, asr, stp, wds, at', clm), g0, g1, g2, out) k k2 k3 := by
  subst hk0
  have J := I
  obtain ⟨i1, i2, i3, i4, i5, i6, i7, q0, q1, q2, iA, G, gG', G3, G0, Gi, Gd⟩ := I
  have g1' : G = 1 := (nI_eq (by omega) (by omega)).mp (gG'.symm.trans gG)
  subst g1'
  have hm : ∀ i, i < 1 → ¬ ru i = 0 → ¬ mf i = 0 → 1 < hi i - lo i := fun i h => (Gi i h).2.2.2
  obtain ⟨K, hop⟩ := Iv_K iA
  have hA : ∀ i, i < 1 → (fun _ : Nat => 0) i < 2 ^ 31 ∧ lo i = nI ((fun _ : Nat => 0) i) := fun i h => by
    have e : i = 0 := by omega
    subst e
    exact ⟨Nat.two_pow_pos 31, l0⟩
  have z1 : ∃ i, i < 1 ∧ nI 0 = nI i := ⟨0, by omega, rfl⟩
  obtain ⟨R, eR⟩ : ∃ R : Nat → Int32, ∀ i, R i = pv V1 (lc i) V2 (hc i) (pH (hk rl hd) 0 k2 k3 0) := ⟨fun i => _, fun i => rfl⟩
  have hR0 : ¬ R 0 = 0 := fun h => hR ((eR 0).symm.trans h)
  have mp := fun {post} => @st_mprove post thr str pot cnt blk op asr stp wds at' gc trc htr base clm b ops ag ws rl hd pto pam lo hi mf dl ru lc hc mt mpth (nI 0) k2 k3 (fun _ => 0) 1 K gG' G3 G0 hA i1 i3 i4 i5 hop (fun _ => hk rl hd) (fun _ => trc) (fun i _ => rfl) (fun i _ => rfl) (fun _ => 0) (fun i _ => ⟨Nat.succ_pos 7, hj⟩) (fun _ => V1) (fun _ => V2) (fun i _ => e1) (fun i _ => e2) R (fun i _ => eR i)
  have I' := Iv_ru J (ru' := upd ru 0 0) (fun v => by
      by_cases w : v = 0
      · subst w; exact Or.inl pk_us
      · exact Or.inr (up_ne w)) (gq_end (G := 0) (d := blk + 4) q0) (gq_end (G := 0) (d := blk + 4) q1) (gq_end (G := 0) (d := blk + 4) q2)
  rw [if_pos rfl, if_neg (by decide), if_neg (by decide)] at I'
  unfold wp_La_prove
  refine st_prove hd (fun _ => 0) gG' G3 G0 q0 q1 q2 hm hA i1 i3 i4 i5 i6 hop (fun _ => hk rl hd) (fun _ => trc) (fun i _ => rfl) (fun i _ => rfl) (fun _ => 0) (fun i _ => ⟨Nat.succ_pos 7, hj⟩) (fun _ => V1) (fun _ => V2) (fun i _ => e1) (fun i _ => e2) R (fun i _ => eR i) (fun h => absurd z1 h) (fun i hi' e hs => ?_) (fun i hi' e hs hx => ?_) (fun i hi' e hs a0 a1 hr => ?_) (fun i hi' e hs a0 a1 hr n' sm' sc' st' pr' pm' pcl' pj' => ⟨fun h => absurd h (by decide), fun _ => ?_⟩) (fun i hi' e hs a0 a1 hr o1 o2 => absurd hn o2)
  · have z : i = 0 := by omega
    subst z
    exact absurd d3 hs
  · exact absurd hx (fun s => s.elim x0 (fun s => s x1))
  · have z : i = 0 := by omega
    subst z
    exact absurd hr hR0
  · have z : i = 0 := by omega
    subst z
    refine mp (fun h => absurd z1 h) (fun j hj' ej hs => ?_) (fun j hj' ej hs hx => absurd hx (fun s => s.elim x0 (fun s => s x1))) (fun j hj' ej hs a0 a1 hr => ?_) (fun j hj' ej hs a0 a1 hr n' t' h' m' p' => ?_) (fun j hj' ej hs a0 a1 hr o1 o2 => absurd hn o2)
    · have z : j = 0 := by omega
      subst z
      exact absurd d3 hs
    · have z : j = 0 := by omega
      subst z
      exact absurd hr hR0
    · have z : j = 0 := by omega
      subst z
      exact hQ sm' sc' st' pr' pm' pcl' pj' t' h' m' p' I'
theorem r_game {gc : Int32} {pot : Int32} {blk : Int32} {cnt : Int32} {op : Int32} {str : Int32} {asr : Int32} {stp : Int32} {wds : Int32} {at' : Int32} {thr : Int32} {base : Int64} {trc : Int64} {htr : Int64} {clm : Int64} {ops : Nat → Int32} {rl : Nat → Int32} {c : Nat → Int32} {pto : Nat → Int32} {ch : Nat → Int32} {lo : Nat → Int32} {hi : Nat → Int32} {mf : Nat → Int32} {dl : Nat → Int32} {ru : Nat → Int32} {lc : Nat → Int64} {hc : Nat → Int64} {md : Nat → Int64} {g0 : ct_Ga} {g1 : ct_Ga} {g2 : ct_Ga} {k1 : Int32} {k2 : Int32} {Q : Int64 → (ct_Sc × ct_Ga × ct_Ga × ct_Ga) → Int64 → (ct_Mo × (Nat → Int32) × (Nat → Int32) × (Nat → Int32) × (Nat → Int64) × (Nat → Int64) × (Nat → Int32) × (Nat → Int64) × (Nat → Int32) × (Nat → Int32)) → Prop} (I : Iv gc cnt op asr stp ops rl c pto ch lo hi mf dl ru lc hc md g0 g1 g2) (gG : gc = nI 1) (hk1 : k1 = nI 0) (hk2 : k2 = 6) (hQ : Iv gc cnt op asr stp ops rl c pto ch lo hi mf dl ru lc hc md g0 g1 g2 → Q g0.2.2.2.2.2.2.2.1.toInt64 ((gc, pot, blk, base), g0, g1, g2) (dl (nI 0).toNatClampNeg).toInt64 ((0, str, pot, cnt, blk, trc, htr, base, op, asr, stp, wds, at', clm, gc), ch, lo, hi, lc, hc, mf, md, dl, ru)) : wp_Sc_game (fun r u => wp_Mo_game (fun r' u' => Q r u r' u') ((thr, str, pot, cnt, blk, trc, htr, base, op, asr, stp, wds, at', clm, gc), ch, lo, hi, lc, hc, mf, md, dl, ru) k1 k2) ((gc, pot, blk, base), g0, g1, g2) k1 k2 := by
  subst hk1
  subst hk2
  have J := I
  obtain ⟨i1, i2, i3, i4, i5, i6, i7, q0, q1, q2, iA, G, gG', G3, G0, Gi, Gd⟩ := I
  have g1' : G = 1 := (nI_eq (by omega) (by omega)).mp (gG'.symm.trans gG)
  subst g1'
  have z1 : ∃ i, i < 1 ∧ nI 0 = nI i := ⟨0, by omega, rfl⟩
  have v : vp_in (nI 0) 3 := vp_in_nI (by omega) (by decide)
  have z0 : (nI 0).toNatClampNeg = 0 := nI_clamp (by omega)
  refine st_isG gG' G3 (fun h => absurd z1 h) (fun i hi' e => ⟨fun n => absurd n (by decide), fun _ => ⟨v, fun _ => ?_, fun e0 => absurd (z0.symm.trans e0) (by decide), fun e0 => absurd (z0.symm.trans e0) (by decide)⟩⟩)
  refine ⟨fun h => absurd h (by decide), fun _ => ⟨fun h => absurd h (by decide), fun _ => ⟨fun h => absurd h (by decide), fun _ => ⟨fun h => absurd h (by decide), fun _ => ⟨fun h => absurd h (by decide), fun _ => ⟨fun h => absurd h (by decide), fun _ => ⟨fun h => absurd h (by decide), fun _ => ⟨fun h => absurd h (by decide), fun _ => ⟨fun _ => ?_, fun h => absurd rfl h⟩⟩⟩⟩⟩⟩⟩⟩⟩
  refine st_misG gG' G3 G0 (fun h => absurd z1 h) (fun i hi' e => ⟨fun n => absurd n (by decide), fun _ => ⟨fun h => absurd h (by decide), fun _ => ⟨fun _ => ⟨fun h => absurd h (by decide), fun _ => ⟨fun h => absurd h (by decide), fun _ => ?_⟩⟩, fun h => absurd (by decide) h⟩⟩⟩)
  exact ⟨fun h => absurd h (by decide), fun _ => ⟨fun h => absurd h (by decide), fun _ => ⟨fun h => absurd h (by decide), fun _ => ⟨fun h => absurd h (by decide), fun _ => ⟨fun h => absurd h (by decide), fun _ => ⟨fun h => absurd h (by decide), fun _ => ⟨fun _ => ⟨v, hQ J⟩, fun h => absurd rfl h⟩⟩⟩⟩⟩⟩⟩
abbrev zi : Nat → Int32 := fun _ => 0
abbrev zj : Nat → Int64 := fun _ => 0
abbrev b4 : Nat → Int32 := upd (upd (upd (upd (fun _ => 0) 0 1000) 1 1000) 2 1000) 3 1000
def t0 : Nat → Int64 := tr zi zj
def c0 : Int64 := cm (0, 0, 0, 0, 0, 0) t0
theorem tk_0 : ∀ n, tk (fun _ => 0) (fun _ => 0) n = fun _ => 0 := by
  intro n
  induction n with
  | zero => rfl
  | succ n ih =>
    show upd (tk (fun _ => 0) (fun _ => 0) n) n 0 = _
    rw [ih]
    funext j
    simp [upd]
theorem Iv_0 : Iv 0 0 0 0 0 zi zi zi zi zi zi zi zi zi zi zj zj zj (0, 0, 0, 0, 0, 0, 0, 0, 0) (0, 0, 0, 0, 0, 0, 0, 0, 0) (0, 0, 0, 0, 0, 0, 0, 0, 0) := by
  have q : ∀ i, gq (0, 0, 0, 0, 0, 0, 0, 0, 0) zi zi zi zi zi zi zj zj zj i := fun i => ⟨rfl, rfl, rfl, rfl, rfl, rfl, rfl, fun _ => rfl, rfl⟩
  exact ⟨fun _ => vp_in_nI (n := 0) (by decide) (by decide), by decide, by decide, vp_in_nI (n := 0) (by decide) (by decide), vp_in_nI (n := 0) (by decide) (by decide), fun _ _ => rfl, fun _ => vp_in_nI (n := 0) (by decide) (by decide), q 0, q 1, q 2, fun n => absurd rfl n, 0, rfl, by decide, fun _ => rfl, fun i h => absurd h (by omega), fun i j _ h => absurd h (by omega)⟩
/-! the machine at rest: with a code of zeros a step leaves all as it is, and the proof of the first state is its commitment -/
theorem rf_uid (h : Nat → Int32) (k : Nat) : upd h k (h k) = h := by
  funext j
  by_cases e : j = k
  · subst e; exact pk_us
  · exact up_ne e
theorem sp_0 {ag ws h : Nat → Int32} {cnt lim : Int32} {t : Int64} : sp zi ag ws cnt lim h t = (h, t) := by
  simp [sp, rf_uid]
theorem aH_0 (h : Nat → Int32) : aH h 0 0 = h := by
  funext i
  simp [aH]
theorem aP_0 (P : Nat → Int64) : aP P 0 0 = P := by
  funext i
  simp [aP]
theorem z_h {hd : Nat → Int32} {i : Nat} (h : i < 13) : hk zi hd i = 0 := hk_i h
theorem z_7 : ((0 : Int32) &&& 7) = nI 0 := by decide
theorem z_j {hd : Nat → Int32} : hk zi hd 2 &&& 7 = nI 0 := by first | (rw [z_h (by omega)]; done) | (rw [z_h (by omega)]; decide)
theorem pH_0 (hd : Nat → Int32) : pH (hk zi hd) 0 0 0 = hk zi hd := by
  show upd (aH (hk zi hd) 0 0) (5 + (aH (hk zi hd) 0 0 2 &&& 7).toNatClampNeg) (hk zi hd (5 + 0)) = hk zi hd
  rw [aH_0, z_j, nI_clamp (by omega)]
  exact rf_uid _ _
theorem c0_cp : cp zi 0 (sbv zi 0) (nI 0) = c0 := by decide +kernel
theorem z_cp (hd : Nat → Int32) : cp (hk zi hd) 0 (sbv (hk zi hd) 0) (nI 0) = c0 := by
  have s : ∀ v, v < 3 → sbv (hk zi hd) 0 v = sbv zi 0 v := fun v hv => by
    show tr (fun i => hk zi hd (5 + i)) (fun _ => 0) (si 0 v) = tr (fun i => zi (5 + i)) (fun _ => 0) (si 0 v)
    exact tr_ei (c := fun i => hk zi hd (5 + i)) (d := fun i => zi (5 + i)) (fun i h => z_h (by omega)) _ _ _ (si_in 0 (by decide) v hv).1 (si_in 0 (by decide) v hv).2
  rw [← c0_cp]
  show wh _ _ _ _ _ _ (rt1 _ _ (sbv (hk zi hd) 0 2) (rt1 _ _ (sbv (hk zi hd) 0 1) (rt1 _ _ (sbv (hk zi hd) 0 0) (mx 1 (hk zi hd (5 + (nI 0).toNatClampNeg)).toInt64)))) = _
  rw [s 0 (by decide), s 1 (by decide), s 2 (by decide), nI_clamp (show 0 < 2 ^ 31 by decide), z_h (show 0 < 13 by decide), z_h (show 1 < 13 by decide), z_h (show 2 < 13 by decide), z_h (show 3 < 13 by decide), z_h (show 4 < 13 by decide), z_h (show 5 + 0 < 13 by decide)]
  (try rfl)
theorem z_e1 (hd : Nat → Int32) : c0 = cp (pH (hk zi hd) 0 0 0) (aT 0 0 0) (aP (sbv (hk zi hd) 0) 0 0) (aH (hk zi hd) 0 0 2 &&& 7) := by
  rw [pH_0, aP_0, aH_0, z_j, show aT 0 0 0 = 0 by decide]
  exact (z_cp hd).symm
theorem z_e2 {ag ws : Nat → Int32} {cnt lim : Int32} (hd : Nat → Int32) : c0 = cp (sp zi ag ws cnt lim (pH (hk zi hd) 0 0 0) (aT 0 0 0)).1 (sp zi ag ws cnt lim (pH (hk zi hd) 0 0 0) (aT 0 0 0)).2 (aP (sbv (hk zi hd) 0) 0 0) (aH (hk zi hd) 0 0 2 &&& 7) := by
  rw [sp_0]
  exact z_e1 hd
theorem c0_cv : cv zi 0 = c0 := by decide +kernel
theorem z_cv (hd : Nat → Int32) : cv (hk zi hd) 0 = c0 := by
  rw [← c0_cv]
  show wh _ _ _ _ _ _ _ = wh _ _ _ _ _ _ _
  rw [z_h (show 0 < 13 by decide), z_h (show 1 < 13 by decide), z_h (show 2 < 13 by decide), z_h (show 3 < 13 by decide), z_h (show 4 < 13 by decide), tr_e (c := fun i => hk zi hd (5 + i)) (d := fun i => zi (5 + i)) (fun i h => z_h (by omega)) (fun _ => 0) (fun _ => 0)]
  (try rfl)
theorem z_clm {ag ws : Nat → Int32} {cnt lim : Int32} (hd : Nat → Int32) : cv (spn zi ag ws cnt lim 1 (hk zi hd) 0).1 (spn zi ag ws cnt lim 1 (hk zi hd) 0).2 = c0 := by
  show cv (sp zi ag ws cnt lim (hk zi hd) 0).1 (sp zi ag ws cnt lim (hk zi hd) 0).2 = c0
  rw [sp_0]
  exact z_cv hd
def rf_xs : List Int32 := [3, 1, 1, 0, 0, 4, 0, 0, 0, 0, 8, 0, 0, 0, 0, 7, 0, 0, 0, 0, 17, 0, 6, 0, 0]
def rf_x : Nat → Int32 := fun j => rf_xs.getD j 0
theorem rf_in {v k : Int32} (w : Int32) (hv : v = w) (h : ¬ (w + k < 0 ∨ 25 ≤ (w + k).toNatClampNeg)) : vp_in (v + k) 25 := by
  subst hv
  exact h
theorem rf_i0 {v : Int32} (w : Int32) (hv : v = w) (h : ¬ (w < 0 ∨ 25 ≤ w.toNatClampNeg)) : vp_in v 25 := by
  subst hv
  exact h
theorem rf_at {v k x : Int32} (w : Int32) (hv : v = w) (h : rf_x (w + k).toNatClampNeg = x) : rf_x (v + k).toNatClampNeg = x := by
  subst hv
  exact h
theorem rf_no {v : Int32} (w : Int32) (hv : v = w) (h : ¬ (Int32.ofNat 25 - 5) < w) : ¬ (Int32.ofNat 25 - 5) < v := by
  subst hv
  exact h
theorem rf_kk {v kk x : Int32} (w : Int32) (hv : v = w) (e : kk = (rf_x v.toNatClampNeg) &&& 31) (h : (rf_x w.toNatClampNeg) &&& 31 = x) : kk = x := by
  subst hv
  exact e.trans h
theorem rf_5 {n : Nat} {v : Int32} {kc ks : Nat} (hv : v = 20) (hkc : kc ≤ 639125) (hks : ks ≤ 7177120) : ∀ (gc : Int32) (pot : Int32) (blk : Int32) (cnt : Int32) (op : Int32) (str : Int32) (asr : Int32) (stp : Int32) (wds : Int32) (at' : Int32) (thr : Int32) (base : Int64) (trc : Int64) (htr : Int64) (clm : Int64) (b : Nat → Int32) (ops : Nat → Int32) (ag : Nat → Int32) (ws : Nat → Int32) (rl : Nat → Int32) (hd : Nat → Int32) (c : Nat → Int32) (sc : Nat → Int32) (pto : Nat → Int32) (pam : Nat → Int32) (drn : Nat → Int32) (pcl : Nat → Int32) (ch : Nat → Int32) (lo : Nat → Int32) (hi : Nat → Int32) (mf : Nat → Int32) (dl : Nat → Int32) (ru : Nat → Int32) (t1 : Nat → Int64) (st : Nat → Int64) (pj : Nat → Int64) (lc : Nat → Int64) (hc : Nat → Int64) (md : Nat → Int64) (mt : Nat → Int64) (mpth : Nat → Int64) (out : Nat → Int64) (sm : ct_Ma) (pm : ct_Ma) (pr : ct_Pr) (g0 : ct_Ga) (g1 : ct_Ga) (g2 : ct_Ga), Iv gc cnt op asr stp ops rl c pto ch lo hi mf dl ru lc hc md g0 g1 g2 → gc = nI 1 → g0.2.2.2.2.2.2.2.1 = 5 → dl 0 = 4 → wl_La_law_23 25 rf_x (n + 1) v (gc, pot, blk, base) b ops ag cnt ws (mm rl trc) c t1 sm sc st (rl 4) pto pam drn pr pm pcl pj (op, str, asr, stp, wds, at', clm) g0 g1 g2 (thr, str, pot, cnt, blk, trc, htr, base, op, asr, stp, wds, at', clm, gc) ops ag b ws rl hd pto pam drn ch lo hi lc hc mf md dl ru mt mpth out kc ks := by
  intro gc pot blk cnt op str asr stp wds at' thr base trc htr clm b ops ag ws rl hd c sc pto pam drn pcl ch lo hi mf dl ru t1 st pj lc hc md mt mpth out sm pm pr g0 g1 g2 I hg g5 d4
  refine ⟨by omega, by omega, fun h => absurd h (rf_no 20 hv (by decide)), fun _ => ⟨rf_i0 20 hv (by decide), fun kk ekk => ?_⟩⟩
  have ekk : kk = 17 := rf_kk 20 hv ekk (by decide)
  subst ekk
  have v1 : vp_in (v + 1) 25 := rf_in 20 hv (by decide)
  have x1 : rf_x (v + 1).toNatClampNeg = 0 := rf_at 20 hv (by decide)
  have v2 : vp_in (v + 2) 25 := rf_in 20 hv (by decide)
  have x2 : rf_x (v + 2).toNatClampNeg = 6 := rf_at 20 hv (by decide)
  have v3 : vp_in (v + 3) 25 := rf_in 20 hv (by decide)
  have x3 : rf_x (v + 3).toNatClampNeg = 0 := rf_at 20 hv (by decide)
  have v4 : vp_in (v + 4) 25 := rf_in 20 hv (by decide)
  have x4 : rf_x (v + 4).toNatClampNeg = 0 := rf_at 20 hv (by decide)
  refine ⟨fun h => absurd h (by decide), fun _ => ⟨fun h => absurd h (by decide), fun _ => ⟨fun h => absurd h (by decide), fun _ => ⟨fun h => absurd h (by decide), fun _ => ⟨fun h => absurd h (by decide), fun _ => ⟨fun h => absurd h (by decide), fun _ => ⟨fun h => absurd h (by decide), fun _ => ⟨fun h => absurd h (by decide), fun _ => ⟨fun h => absurd h (by decide), fun _ => ⟨fun h => absurd h (by decide), fun _ => ⟨fun h => absurd h (by decide), fun _ => ⟨fun h => absurd h (by decide), fun _ => ⟨fun h => absurd h (by decide), fun _ => ⟨fun h => absurd h (by decide), fun _ => ⟨fun h => absurd h (by decide), fun _ => ⟨fun h => absurd h (by decide), fun _ => ⟨fun h => absurd h (by decide), fun _ => ⟨fun h => absurd h (by decide), fun _ => ⟨fun h => absurd h (by decide), fun _ => ⟨fun _ => ?_, fun h => absurd rfl h⟩⟩⟩⟩⟩⟩⟩⟩⟩⟩⟩⟩⟩⟩⟩⟩⟩⟩⟩⟩
  simp only [v1, v2, v3, v4, x1, x2, x3, x4, true_and]
  refine r_game I hg rfl rfl (fun _ => ?_)
  have e : (dl (nI 0).toNatClampNeg) = 4 := by rw [nI_clamp (by omega)]; exact d4
  have q : ¬ g0.2.2.2.2.2.2.2.1.toInt64 = (dl (nI 0).toNatClampNeg).toInt64 := by rw [g5, e]; decide
  exact ⟨fun h => absurd (lg_eq.mp h) q, fun _ => trivial⟩
theorem rf_4 {n : Nat} {v : Int32} {kc ks : Nat} (hv : v = 15) (hkc : kc ≤ 639115) (hks : ks ≤ 7177060) : ∀ (gc : Int32) (pot : Int32) (blk : Int32) (cnt : Int32) (op : Int32) (str : Int32) (asr : Int32) (stp : Int32) (wds : Int32) (at' : Int32) (thr : Int32) (base : Int64) (trc : Int64) (htr : Int64) (clm : Int64) (b : Nat → Int32) (ops : Nat → Int32) (ag : Nat → Int32) (ws : Nat → Int32) (rl : Nat → Int32) (hd : Nat → Int32) (c : Nat → Int32) (sc : Nat → Int32) (pto : Nat → Int32) (pam : Nat → Int32) (drn : Nat → Int32) (pcl : Nat → Int32) (ch : Nat → Int32) (lo : Nat → Int32) (hi : Nat → Int32) (mf : Nat → Int32) (dl : Nat → Int32) (ru : Nat → Int32) (t1 : Nat → Int64) (st : Nat → Int64) (pj : Nat → Int64) (lc : Nat → Int64) (hc : Nat → Int64) (md : Nat → Int64) (mt : Nat → Int64) (mpth : Nat → Int64) (out : Nat → Int64) (sm : ct_Ma) (pm : ct_Ma) (pr : ct_Pr) (g0 : ct_Ga) (g1 : ct_Ga) (g2 : ct_Ga), Iv gc cnt op asr stp ops rl c pto ch lo hi mf dl ru lc hc md g0 g1 g2 → gc = nI 1 → blk = 1 → at' = 0 → lo 0 = nI 0 → hi 0 = nI 1 → mf 0 = 0 → ru 0 = 1 → dl 0 = 4 → ops = zi → rl = zi → trc = 0 → lc 0 = c0 → hc 0 = c0 → wl_La_law_23 25 rf_x (n + 2) v (gc, pot, blk, base) b ops ag cnt ws (mm rl trc) c t1 sm sc st (rl 4) pto pam drn pr pm pcl pj (op, str, asr, stp, wds, at', clm) g0 g1 g2 (thr, str, pot, cnt, blk, trc, htr, base, op, asr, stp, wds, at', clm, gc) ops ag b ws rl hd pto pam drn ch lo hi lc hc mf md dl ru mt mpth out kc ks := by
  intro gc pot blk cnt op str asr stp wds at' thr base trc htr clm b ops ag ws rl hd c sc pto pam drn pcl ch lo hi mf dl ru t1 st pj lc hc md mt mpth out sm pm pr g0 g1 g2 I hg hb hat l0 h0 m0 r0 d0 hops hrl htc lc0 hc0
  refine ⟨by omega, by omega, fun h => absurd h (rf_no 15 hv (by decide)), fun _ => ⟨rf_i0 15 hv (by decide), fun kk ekk => ?_⟩⟩
  have ekk : kk = 7 := rf_kk 15 hv ekk (by decide)
  subst ekk
  have v1 : vp_in (v + 1) 25 := rf_in 15 hv (by decide)
  have x1 : rf_x (v + 1).toNatClampNeg = 0 := rf_at 15 hv (by decide)
  have v2 : vp_in (v + 2) 25 := rf_in 15 hv (by decide)
  have x2 : rf_x (v + 2).toNatClampNeg = 0 := rf_at 15 hv (by decide)
  have v3 : vp_in (v + 3) 25 := rf_in 15 hv (by decide)
  have x3 : rf_x (v + 3).toNatClampNeg = 0 := rf_at 15 hv (by decide)
  have v4 : vp_in (v + 4) 25 := rf_in 15 hv (by decide)
  have x4 : rf_x (v + 4).toNatClampNeg = 0 := rf_at 15 hv (by decide)
  refine ⟨fun h => absurd h (by decide), fun _ => ⟨fun h => absurd h (by decide), fun _ => ⟨fun h => absurd h (by decide), fun _ => ⟨fun h => absurd h (by decide), fun _ => ⟨fun h => absurd h (by decide), fun _ => ⟨fun h => absurd h (by decide), fun _ => ⟨fun h => absurd h (by decide), fun _ => ⟨fun h => absurd h (by decide), fun _ => ⟨fun h => absurd h (by decide), fun _ => ⟨fun _ => ?_, fun h => absurd rfl h⟩⟩⟩⟩⟩⟩⟩⟩⟩⟩
  subst hops
  subst hrl
  subst htc
  simp only [v1, v2, v3, v4, x1, x2, x3, x4, true_and]
  have d3 : dv (lo 0) (hi 0) (mf 0) (ru 0) = 3 := by first | (rw [l0, h0, m0, r0]; done) | (rw [l0, h0, m0, r0]; decide)
  have p0 : pH (hk zi hd) 0 0 0 0 = 0 := by rw [pH_0]; exact z_h (by omega)
  have hR : ¬ pv c0 (lc 0) c0 (hc 0) (pH (hk zi hd) 0 0 0 0) = 0 := by rw [lc0, hc0, p0]; simp [pv]
  refine r_prove I hg rfl d3 (by decide) (by decide) l0 z_j c0 c0 (z_e1 hd) (z_e2 hd) hR (by rw [hb, hat]; decide) (fun sm' sc' st' pr' pm' pcl' pj' htr' hd' mt' mpth' I' => ?_)
  exact rf_5 (n := n) (by first | (rw [hv]; done) | (rw [hv]; decide)) (by omega) (by omega) _ _ _ _ _ _ _ _ _ _ _ _ _ _ _ _ _ _ _ _ _ _ _ _ _ _ _ _ _ _ _ _ _ _ _ _ _ _ _ _ _ _ _ _ _ _ _ _ I' hg (by show blk + 4 = 5; first | (rw [hb]; done) | (rw [hb]; decide)) d0
theorem rf_3 {n : Nat} {v : Int32} {kc ks : Nat} (hv : v = 10) (hkc : kc ≤ 639105) (hks : ks ≤ 7177000) : ∀ (gc : Int32) (pot : Int32) (blk : Int32) (cnt : Int32) (op : Int32) (str : Int32) (asr : Int32) (stp : Int32) (wds : Int32) (at' : Int32) (thr : Int32) (base : Int64) (trc : Int64) (htr : Int64) (clm : Int64) (b : Nat → Int32) (ops : Nat → Int32) (ag : Nat → Int32) (ws : Nat → Int32) (rl : Nat → Int32) (hd : Nat → Int32) (c : Nat → Int32) (sc : Nat → Int32) (pto : Nat → Int32) (pam : Nat → Int32) (drn : Nat → Int32) (pcl : Nat → Int32) (ch : Nat → Int32) (lo : Nat → Int32) (hi : Nat → Int32) (mf : Nat → Int32) (dl : Nat → Int32) (ru : Nat → Int32) (t1 : Nat → Int64) (st : Nat → Int64) (pj : Nat → Int64) (lc : Nat → Int64) (hc : Nat → Int64) (md : Nat → Int64) (mt : Nat → Int64) (mpth : Nat → Int64) (out : Nat → Int64) (sm : ct_Ma) (pm : ct_Ma) (pr : ct_Pr) (g0 : ct_Ga) (g1 : ct_Ga) (g2 : ct_Ga), Iv gc cnt op asr stp ops rl c pto ch lo hi mf dl ru lc hc md g0 g1 g2 → gc = nI 1 → blk = 0 → at' = 0 → lo 0 = nI 0 → hi 0 = nI 1 → mf 0 = 0 → ru 0 = 1 → dl 0 = 4 → ops = zi → rl = zi → trc = 0 → lc 0 = c0 → hc 0 = c0 → wl_La_law_23 25 rf_x (n + 3) v (gc, pot, blk, base) b ops ag cnt ws (mm rl trc) c t1 sm sc st (rl 4) pto pam drn pr pm pcl pj (op, str, asr, stp, wds, at', clm) g0 g1 g2 (thr, str, pot, cnt, blk, trc, htr, base, op, asr, stp, wds, at', clm, gc) ops ag b ws rl hd pto pam drn ch lo hi lc hc mf md dl ru mt mpth out kc ks := by
  intro gc pot blk cnt op str asr stp wds at' thr base trc htr clm b ops ag ws rl hd c sc pto pam drn pcl ch lo hi mf dl ru t1 st pj lc hc md mt mpth out sm pm pr g0 g1 g2 I hg hb hat l0 h0 m0 r0 d0 hops hrl htc lc0 hc0
  refine ⟨by omega, by omega, fun h => absurd h (rf_no 10 hv (by decide)), fun _ => ⟨rf_i0 10 hv (by decide), fun kk ekk => ?_⟩⟩
  have ekk : kk = 8 := rf_kk 10 hv ekk (by decide)
  subst ekk
  have v1 : vp_in (v + 1) 25 := rf_in 10 hv (by decide)
  have x1 : rf_x (v + 1).toNatClampNeg = 0 := rf_at 10 hv (by decide)
  have v2 : vp_in (v + 2) 25 := rf_in 10 hv (by decide)
  have x2 : rf_x (v + 2).toNatClampNeg = 0 := rf_at 10 hv (by decide)
  have v3 : vp_in (v + 3) 25 := rf_in 10 hv (by decide)
  have x3 : rf_x (v + 3).toNatClampNeg = 0 := rf_at 10 hv (by decide)
  have v4 : vp_in (v + 4) 25 := rf_in 10 hv (by decide)
  have x4 : rf_x (v + 4).toNatClampNeg = 0 := rf_at 10 hv (by decide)
  refine ⟨fun h => absurd h (by decide), fun _ => ⟨fun h => absurd h (by decide), fun _ => ⟨fun h => absurd h (by decide), fun _ => ⟨fun h => absurd h (by decide), fun _ => ⟨fun h => absurd h (by decide), fun _ => ⟨fun h => absurd h (by decide), fun _ => ⟨fun h => absurd h (by decide), fun _ => ⟨fun h => absurd h (by decide), fun _ => ⟨fun h => absurd h (by decide), fun _ => ⟨fun h => absurd h (by decide), fun _ => ⟨fun _ => ?_, fun h => absurd rfl h⟩⟩⟩⟩⟩⟩⟩⟩⟩⟩⟩
  refine r_block I (fun G gG G3 => ?_) (by rw [hb, hat]; decide) (fun I' => ?_)
  · have g1' : G = 1 := (nI_eq (by omega) (by omega)).mp (gG.symm.trans hg)
    subst g1'
    rw [el, if_neg (by rw [r0]; decide), if_pos (by rw [hb, d0]; decide)]
    rfl
  exact rf_4 (n := n) (by first | (rw [hv]; done) | (rw [hv]; decide)) (by omega) (by omega) _ _ _ _ _ _ _ _ _ _ _ _ _ _ _ _ _ _ _ _ _ _ _ _ _ _ _ _ _ _ _ _ _ _ _ _ _ _ _ _ _ _ _ _ _ _ _ _ I' hg (by first | (rw [hb]; done) | (rw [hb]; decide)) hat l0 h0 m0 r0 d0 hops hrl htc lc0 hc0
theorem rf_2 {n : Nat} {v : Int32} {kc ks : Nat} (hv : v = 5) (hkc : kc ≤ 639095) (hks : ks ≤ 7176940) : ∀ (gc : Int32) (pot : Int32) (blk : Int32) (cnt : Int32) (op : Int32) (str : Int32) (asr : Int32) (stp : Int32) (wds : Int32) (at' : Int32) (thr : Int32) (base : Int64) (trc : Int64) (htr : Int64) (clm : Int64) (b : Nat → Int32) (ops : Nat → Int32) (ag : Nat → Int32) (ws : Nat → Int32) (rl : Nat → Int32) (hd : Nat → Int32) (c : Nat → Int32) (sc : Nat → Int32) (pto : Nat → Int32) (pam : Nat → Int32) (drn : Nat → Int32) (pcl : Nat → Int32) (ch : Nat → Int32) (lo : Nat → Int32) (hi : Nat → Int32) (mf : Nat → Int32) (dl : Nat → Int32) (ru : Nat → Int32) (t1 : Nat → Int64) (st : Nat → Int64) (pj : Nat → Int64) (lc : Nat → Int64) (hc : Nat → Int64) (md : Nat → Int64) (mt : Nat → Int64) (mpth : Nat → Int64) (out : Nat → Int64) (sm : ct_Ma) (pm : ct_Ma) (pr : ct_Pr) (g0 : ct_Ga) (g1 : ct_Ga) (g2 : ct_Ga), Iv gc cnt op asr stp ops rl c pto ch lo hi mf dl ru lc hc md g0 g1 g2 → gc = 0 → op = 1 → asr = 1 → stp = nI 1 → blk = 0 → at' = 0 → 100 ≤ b 0 → ops = zi → rl = zi → trc = 0 → base = c0 → clm = c0 → wl_La_law_23 25 rf_x (n + 4) v (gc, pot, blk, base) b ops ag cnt ws (mm rl trc) c t1 sm sc st (rl 4) pto pam drn pr pm pcl pj (op, str, asr, stp, wds, at', clm) g0 g1 g2 (thr, str, pot, cnt, blk, trc, htr, base, op, asr, stp, wds, at', clm, gc) ops ag b ws rl hd pto pam drn ch lo hi lc hc mf md dl ru mt mpth out kc ks := by
  intro gc pot blk cnt op str asr stp wds at' thr base trc htr clm b ops ag ws rl hd c sc pto pam drn pcl ch lo hi mf dl ru t1 st pj lc hc md mt mpth out sm pm pr g0 g1 g2 I hg ho ha hs hb hat b0 hops hrl htc hbs hcl
  refine ⟨by omega, by omega, fun h => absurd h (rf_no 5 hv (by decide)), fun _ => ⟨rf_i0 5 hv (by decide), fun kk ekk => ?_⟩⟩
  have ekk : kk = 4 := rf_kk 5 hv ekk (by decide)
  subst ekk
  have v1 : vp_in (v + 1) 25 := rf_in 5 hv (by decide)
  have x1 : rf_x (v + 1).toNatClampNeg = 0 := rf_at 5 hv (by decide)
  have v2 : vp_in (v + 2) 25 := rf_in 5 hv (by decide)
  have x2 : rf_x (v + 2).toNatClampNeg = 0 := rf_at 5 hv (by decide)
  have v3 : vp_in (v + 3) 25 := rf_in 5 hv (by decide)
  have x3 : rf_x (v + 3).toNatClampNeg = 0 := rf_at 5 hv (by decide)
  have v4 : vp_in (v + 4) 25 := rf_in 5 hv (by decide)
  have x4 : rf_x (v + 4).toNatClampNeg = 0 := rf_at 5 hv (by decide)
  refine ⟨fun h => absurd h (by decide), fun _ => ⟨fun h => absurd h (by decide), fun _ => ⟨fun h => absurd h (by decide), fun _ => ⟨fun h => absurd h (by decide), fun _ => ⟨fun h => absurd h (by decide), fun _ => ⟨fun h => absurd h (by decide), fun _ => ⟨fun _ => ?_, fun h => absurd rfl h⟩⟩⟩⟩⟩⟩⟩
  simp only [v1, v2, v3, v4, x1, x2, x3, x4, true_and]
  refine r_challenge I hg (show ¬ ((0 : Int32) < 0 ∨ 4 ≤ (0 : Int32).toNatClampNeg) by decide) (by rw [ho]; decide) (by rw [ha]; decide) b0 (fun f ef I' => ?_)
  have a1 : upd lo 0 0 0 = nI 0 := pk_us
  have a2 : upd hi 0 stp 0 = nI 1 := pk_us.trans hs
  have a3 : upd mf 0 0 0 = 0 := pk_us
  have a4 : upd ru 0 1 0 = 1 := pk_us
  have a5 : blk + 4 = 4 := by first | (rw [hb]; done) | (rw [hb]; decide)
  have a5 : upd dl 0 (blk + 4) 0 = 4 := pk_us.trans a5
  have a6 : vp_updL lc 0 base 0 = c0 := pk_uLs.trans hbs
  have a7 : vp_updL hc 0 clm 0 = c0 := pk_uLs.trans hcl
  exact rf_3 (n := n) (by first | (rw [hv]; done) | (rw [hv]; decide)) (by omega) (by omega) _ _ _ _ _ _ _ _ _ _ _ _ _ _ _ _ _ _ _ _ _ _ _ _ _ _ _ _ _ _ _ _ _ _ _ _ _ _ _ _ _ _ _ _ _ _ _ _ I' (by first | (rw [hg]; done) | (rw [hg]; decide)) hb hat a1 a2 a3 a4 a5 hops hrl htc a6 a7
theorem rf_1 {n : Nat} {v : Int32} {kc ks : Nat} (hv : v = 0) (hkc : kc ≤ 639085) (hks : ks ≤ 7176880) : ∀ (gc : Int32) (pot : Int32) (blk : Int32) (cnt : Int32) (op : Int32) (str : Int32) (asr : Int32) (stp : Int32) (wds : Int32) (at' : Int32) (thr : Int32) (base : Int64) (trc : Int64) (htr : Int64) (clm : Int64) (b : Nat → Int32) (ops : Nat → Int32) (ag : Nat → Int32) (ws : Nat → Int32) (rl : Nat → Int32) (hd : Nat → Int32) (c : Nat → Int32) (sc : Nat → Int32) (pto : Nat → Int32) (pam : Nat → Int32) (drn : Nat → Int32) (pcl : Nat → Int32) (ch : Nat → Int32) (lo : Nat → Int32) (hi : Nat → Int32) (mf : Nat → Int32) (dl : Nat → Int32) (ru : Nat → Int32) (t1 : Nat → Int64) (st : Nat → Int64) (pj : Nat → Int64) (lc : Nat → Int64) (hc : Nat → Int64) (md : Nat → Int64) (mt : Nat → Int64) (mpth : Nat → Int64) (out : Nat → Int64) (sm : ct_Ma) (pm : ct_Ma) (pr : ct_Pr) (g0 : ct_Ga) (g1 : ct_Ga) (g2 : ct_Ga), Iv gc cnt op asr stp ops rl c pto ch lo hi mf dl ru lc hc md g0 g1 g2 → gc = 0 → op = 0 → blk = 0 → 100 ≤ b 0 → 100 ≤ b 1 → ops = zi → rl = zi → trc = 0 → base = c0 → wl_La_law_23 25 rf_x (n + 5) v (gc, pot, blk, base) b ops ag cnt ws (mm rl trc) c t1 sm sc st (rl 4) pto pam drn pr pm pcl pj (op, str, asr, stp, wds, at', clm) g0 g1 g2 (thr, str, pot, cnt, blk, trc, htr, base, op, asr, stp, wds, at', clm, gc) ops ag b ws rl hd pto pam drn ch lo hi lc hc mf md dl ru mt mpth out kc ks := by
  intro gc pot blk cnt op str asr stp wds at' thr base trc htr clm b ops ag ws rl hd c sc pto pam drn pcl ch lo hi mf dl ru t1 st pj lc hc md mt mpth out sm pm pr g0 g1 g2 I hg ho hb b0 b1 hops hrl htc hbs
  refine ⟨by omega, by omega, fun h => absurd h (rf_no 0 hv (by decide)), fun _ => ⟨rf_i0 0 hv (by decide), fun kk ekk => ?_⟩⟩
  have ekk : kk = 3 := rf_kk 0 hv ekk (by decide)
  subst ekk
  have v1 : vp_in (v + 1) 25 := rf_in 0 hv (by decide)
  have x1 : rf_x (v + 1).toNatClampNeg = 1 := rf_at 0 hv (by decide)
  have v2 : vp_in (v + 2) 25 := rf_in 0 hv (by decide)
  have x2 : rf_x (v + 2).toNatClampNeg = 1 := rf_at 0 hv (by decide)
  have v3 : vp_in (v + 3) 25 := rf_in 0 hv (by decide)
  have x3 : rf_x (v + 3).toNatClampNeg = 0 := rf_at 0 hv (by decide)
  have v4 : vp_in (v + 4) 25 := rf_in 0 hv (by decide)
  have x4 : rf_x (v + 4).toNatClampNeg = 0 := rf_at 0 hv (by decide)
  refine ⟨fun h => absurd h (by decide), fun _ => ⟨fun h => absurd h (by decide), fun _ => ⟨fun h => absurd h (by decide), fun _ => ⟨fun h => absurd h (by decide), fun _ => ⟨fun h => absurd h (by decide), fun _ => ⟨fun _ => ?_, fun h => absurd rfl h⟩⟩⟩⟩⟩⟩
  subst hops
  subst hrl
  subst htc
  simp only [v1, v2, v3, v4, x1, x2, x3, x4, true_and]
  refine r_claim I hg ho (show ¬ ((1 : Int32) < 0 ∨ 4 ≤ (1 : Int32).toNatClampNeg) by decide) 1 rfl (by decide) (by decide) (by decide) (by decide) b1 (fun htr' hd' mt' sm' sc' st' f ef I' => ?_)
  have ef : f = c0 := by
    rw [ef, z_clm]
    exact (show ∀ z : Int64, z = 0 → c0 ^^^ z = c0 from fun z h => by rw [h]; simp) _ (by decide)
  have a1 : 100 ≤ upd b (1 : Int32).toNatClampNeg (b (1 : Int32).toNatClampNeg - 100) 0 := by
    rw [up_ne (show (0 : Nat) ≠ (1 : Int32).toNatClampNeg by decide)]
    exact b0
  exact rf_2 (n := n) (by first | (rw [hv]; done) | (rw [hv]; decide)) (by omega) (by omega) _ _ _ _ _ _ _ _ _ _ _ _ _ _ _ _ _ _ _ _ _ _ _ _ _ _ _ _ _ _ _ _ _ _ _ _ _ _ _ _ _ _ _ _ _ _ _ _ I' hg rfl rfl rfl hb hb a1 rfl rfl rfl hbs ef
theorem rf_law : wp_La_law 25 rf_x := by
  simp only [wp_La_law, wp_Sc_init, wp_Co_init, wp_In_init, wp_Ma_init, wp_Pa_init, wp_Pr_init, wp_As_init, wp_Ga_init]
  refine pu_Ma_commitment ?_
  unfold wp_Mo_init
  refine pu_Mo_take ?_
  refine pu_Mo_commitment ?_
  refine ⟨5, ?_⟩
  have e := tk_0 13
  rw [show tk (fun _ => 0) (fun _ => 0) 13 = fun _ => 0 from e]
  exact rf_1 (n := 0) (v := 0) (kc := 49) (ks := 641) rfl (by decide) (by decide) 0 0 0 0 0 0 0 0 0 0 0 c0 0 0 0 b4 zi zi zi zi zi zi zi zi zi zi zi zi zi zi zi zi zi t0 zj zj zj zj zj t0 zj (fun _ => 0) (0, 0, 0, 0, 0, 0) (0, 0, 0, 0, 0, 0) (0, 0) (0, 0, 0, 0, 0, 0, 0, 0, 0) (0, 0, 0, 0, 0, 0, 0, 0, 0) (0, 0, 0, 0, 0, 0, 0, 0, 0) Iv_0 rfl rfl rfl (by decide) (by decide) rfl rfl rfl rfl
