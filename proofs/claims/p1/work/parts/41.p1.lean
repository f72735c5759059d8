/-! p1: at most one call, on fresh objects -/
abbrev zi : Nat → Int32 := fun _ => 0
abbrev zj : Nat → Int64 := fun _ => 0
abbrev b4 : Nat → Int32 := upd (upd (upd (upd (fun _ => 0) 0 1000) 1 1000) 2 1000) 3 1000
def t0 : Nat → Int64 := tr zi zj
def c0 : Int64 := cm (0, 0, 0, 0, 0, 0) t0
theorem tk_0 : ∀ n, tk (fun _ => 0) (fun _ => 0) n = fun _ => 0 := by
  intro n
  induction n with
  | zero => rfl
  | succ n ih =>
    show upd (tk (fun _ => 0) (fun _ => 0) n) n 0 = _
    rw [ih]
    funext j
    simp [upd]
/-- behind the one call the law is through -/
theorem p1_exit {xs : Nat → Int32} {a0 : ct_Sc} {a1 a2 a3 : Nat → Int32} {a4 : ct_In} {a5 : Nat → Int32} {a6 : ct_Ma} {a7 : Nat → Int32} {a8 : Nat → Int64} {a9 : ct_Ma} {a10 : Nat → Int32} {a11 : Nat → Int64} {a12 : ct_Pa} {a13 a14 a15 : Nat → Int32} {a16 : ct_Pr} {a17 : ct_Ma} {a18 : Nat → Int32} {a19 : Nat → Int64} {a20 : ct_As} {a21 a22 a23 : ct_Ga} {m0 : ct_Mo} {m1 m2 m3 m4 m5 m6 m7 m8 m9 m10 m11 m12 : Nat → Int32} {m13 m14 : Nat → Int64} {m15 : Nat → Int32} {m16 : Nat → Int64} {m17 m18 : Nat → Int32} {m19 m20 m21 : Nat → Int64} :
    wl_La_law_23 5 xs 1 (0 + 5) a0 a1 a2 a3 a4 a5 a6 a7 a8 a9 a10 a11 a12 a13 a14 a15 a16 a17 a18 a19 a20 a21 a22 a23 m0 m1 m2 m3 m4 m5 m6 m7 m8 m9 m10 m11 m12 m13 m14 m15 m16 m17 m18 m19 m20 m21 (49 + 10) (641 + 60) :=
  ⟨by decide, by decide, fun _ => trivial, fun h => absurd (by decide) h⟩
theorem p1_ex {xs : Nat → Int32} {a0 : ct_Sc} {a1 a2 a3 : Nat → Int32} {a4 : ct_In} {a5 : Nat → Int32} {a6 : ct_Ma} {a7 : Nat → Int32} {a8 : Nat → Int64} {a9 : ct_Ma} {a10 : Nat → Int32} {a11 : Nat → Int64} {a12 : ct_Pa} {a13 a14 a15 : Nat → Int32} {a16 : ct_Pr} {a17 : ct_Ma} {a18 : Nat → Int32} {a19 : Nat → Int64} {a20 : ct_As} {a21 a22 a23 : ct_Ga} {m0 : ct_Mo} {m1 m2 m3 m4 m5 m6 m7 m8 m9 m10 m11 m12 : Nat → Int32} {m13 m14 : Nat → Int64} {m15 : Nat → Int32} {m16 : Nat → Int64} {m17 m18 : Nat → Int32} {m19 m20 m21 : Nat → Int64} :
    wl_La_law_23 5 xs 1 (0 + 5) a0 a1 a2 a3 a4 a5 a6 a7 a8 a9 a10 a11 a12 a13 a14 a15 a16 a17 a18 a19 a20 a21 a22 a23 m0 m1 m2 m3 m4 m5 m6 m7 m8 m9 m10 m11 m12 m13 m14 m15 m16 m17 m18 m19 m20 m21 (49 + 10) (641 + 60) = True := eq_true p1_exit
theorem i4_3 {k : Int32} : 4 ≤ k ↔ 3 < k := by
  rw [Int32.le_iff_toInt_le, Int32.lt_iff_toInt_lt, show (4 : Int32).toInt = 4 by decide, show (3 : Int32).toInt = 3 by decide]
  omega
theorem i16_15 {k : Int32} : 16 ≤ k ↔ 15 < k := by
  rw [Int32.le_iff_toInt_le, Int32.lt_iff_toInt_lt, show (16 : Int32).toInt = 16 by decide, show (15 : Int32).toInt = 15 by decide]
  omega
theorem i_in {k : Int32} {N : Nat} {M : Int32} (hM : M.toInt = N) (h0 : ¬ k < 0) (h1 : ¬ M ≤ k) : vp_in k N := by
  rw [vp_in_iff]
  rw [Int32.lt_iff_toInt_lt, Int32.toInt_zero] at h0
  rw [Int32.le_iff_toInt_le, hM] at h1
  omega
theorem i_in2 {k : Int32} {N : Nat} {M : Int32} (hM : M.toInt + 1 = N) (h0 : ¬ k < 0) (h1 : ¬ M < k) : vp_in k N := by
  rw [vp_in_iff]
  rw [Int32.lt_iff_toInt_lt, Int32.toInt_zero] at h0
  rw [Int32.lt_iff_toInt_lt] at h1
  omega
theorem v1 : vp_in ((0 : Int32) + 1) 5 := show ¬ (((0 : Int32) + 1) < 0 ∨ 5 ≤ ((0 : Int32) + 1).toNatClampNeg) by decide
theorem v2 : vp_in ((0 : Int32) + 2) 5 := show ¬ (((0 : Int32) + 2) < 0 ∨ 5 ≤ ((0 : Int32) + 2).toNatClampNeg) by decide
theorem v3 : vp_in ((0 : Int32) + 3) 5 := show ¬ (((0 : Int32) + 3) < 0 ∨ 5 ≤ ((0 : Int32) + 3).toNatClampNeg) by decide
theorem v4 : vp_in ((0 : Int32) + 4) 5 := show ¬ (((0 : Int32) + 4) < 0 ∨ 5 ≤ ((0 : Int32) + 4).toNatClampNeg) by decide
theorem v0 : vp_in (0 : Int32) 5 := show ¬ ((0 : Int32) < 0 ∨ 5 ≤ (0 : Int32).toNatClampNeg) by decide
theorem lgc (a : Int64) : lg_cmp a a = 0 := by
  simp [lg_cmp]
theorem upL (f : Nat → Int64) (k : Nat) (x : Int64) : vp_updL f k x k = x := by
  simp [vp_updL]
theorem i_le {k : Int32} (h : ¬ k < 0) : 0 ≤ k := by
  rw [Int32.lt_iff_toInt_lt, Int32.toInt_zero] at h
  rw [Int32.le_iff_toInt_le, Int32.toInt_zero]
  omega
theorem i_n1 {k : Int32} (h : ¬ k < 1) : ¬ k < 0 := by
  rw [Int32.lt_iff_toInt_lt, show (1 : Int32).toInt = 1 by decide] at h
  rw [Int32.lt_iff_toInt_lt, Int32.toInt_zero]
  omega
theorem one_ne_i : ((1 : Int32) = 0) = False := eq_false (by decide)
theorem w60_0 : vp_in (0 : Int32) 60 := show ¬ ((0 : Int32) < 0 ∨ 60 ≤ (0 : Int32).toNatClampNeg) by decide
theorem w60_1 : vp_in (1 : Int32) 60 := show ¬ ((1 : Int32) < 0 ∨ 60 ≤ (1 : Int32).toNatClampNeg) by decide
theorem w60_2 : vp_in (2 : Int32) 60 := show ¬ ((2 : Int32) < 0 ∨ 60 ≤ (2 : Int32).toNatClampNeg) by decide
theorem tr_1 (c : Nat → Int32) (x y : Nat → Int64) : tr c x 1 = tr c y 1 := by
  simp [tr, nd, lf, vp_updL]
theorem z16 : vp_in (0 : Int32) 16 := show ¬ ((0 : Int32) < 0 ∨ 16 ≤ (0 : Int32).toNatClampNeg) by decide
theorem fr_ma {post : (ct_Ma × (Nat → Int32) × (Nat → Int32) × (Nat → Int32) × ct_In × (Nat → Int32)) → Prop} {k3 : Int32} (h : post ((0, 0, 0, 0, 0, 0), zi, zi, zi, 0, zi)) : wp_Ma_step post ((0, 0, 0, 0, 0, 0), zi, zi, zi, 0, zi) k3 := by
  intro y1 e1
  have e1 : y1 = 0 := e1.trans (by decide)
  subst e1
  refine ⟨z16, fun y3 e3 y4 e4 y5 e5 => ⟨z16, fun kk ek => ?_⟩⟩
  have ek : kk = 0 := ek
  subst ek
  exact ⟨fun h => absurd h (by decide), fun _ => ⟨fun h => absurd h (by decide), fun _ => ⟨fun _ => h, fun hn => absurd rfl hn⟩⟩⟩
theorem up_0 : upd zi 0 0 = zi := by
  funext j
  simp [upd]
theorem fr_mo {post : (ct_Mo × (Nat → Int32) × (Nat → Int32) × (Nat → Int32) × (Nat → Int32)) → Prop} {o : ct_Mo} {k1 : Int32} (h : post (o, zi, zi, zi, zi)) : wp_Mo_step post (o, zi, zi, zi, zi) k1 := by
  intro y1 e1
  have e1 : y1 = 0 := e1
  subst e1
  refine ⟨z16, fun y3 e3 => ⟨z16, fun y5 e5 y6 e6 y7 e7 y8 e8 y9 e9 => ⟨fun _ => ?_, fun hn => absurd e3 hn⟩⟩⟩
  show post (o, zi, zi, zi, upd zi 0 0)
  rw [up_0]
  exact h
theorem fr_run {post : (ct_Sc × (Nat → Int32) × (Nat → Int32) × ct_In × (Nat → Int32) × ct_Ma × (Nat → Int32) × ct_Ma × (Nat → Int32)) → Prop} {u : ct_Sc × (Nat → Int32) × (Nat → Int32) × ct_In × (Nat → Int32) × ct_Ma × (Nat → Int32) × ct_Ma × (Nat → Int32)} {k2 : Int32} {u2 : ct_Ma × (Nat → Int32) × ct_Ma × (Nat → Int32)} {K : Nat} (hK : K < 2 ^ 31) (h : post (u.1, zi, zi, 0, zi, u2.2.2.1, u2.2.2.2, (0, 0, 0, 0, 0, 0), zi)) : ∀ n j, j + n = K → wl_Sc_runScratch_13 post u (nI K) k2 u2 (n + 1) (nI j) zi zi 0 zi (0, 0, 0, 0, 0, 0) zi := by
  intro n
  induction n with
  | zero =>
    intro j hj
    exact ⟨fun _ => h, fun hn => absurd (nI_le (by omega) (by omega)) hn⟩
  | succ n ih =>
    intro j hj
    refine ⟨fun hn => absurd hn (nI_ge (by omega) (by omega)), fun _ => fr_ma ?_⟩
    have e := ih (j + 1) (by omega)
    rw [← nI_1] at e
    exact e
theorem fr_after {post : (ct_Mo × (Nat → Int32) × (Nat → Int32) × (Nat → Int32) × (Nat → Int32) × (Nat → Int32)) → Prop} {k2 : Int32} {u2 : ct_Mo × (Nat → Int32) × (Nat → Int32)} {o : ct_Mo} {K : Nat} (hK : K < 2 ^ 31) (h : post (o, zi, zi, zi, u2.2.1, zi)) : ∀ n j, j + n = K → wl_Mo_after_6 post (nI K) k2 u2 (n + 1) (nI j) zi zi zi o zi := by
  intro n
  induction n with
  | zero =>
    intro j hj
    exact ⟨fun _ => h, fun hn => absurd (nI_le (by omega) (by omega)) hn⟩
  | succ n ih =>
    intro j hj
    refine ⟨fun hn => absurd hn (nI_ge (by omega) (by omega)), fun _ => fr_mo ?_⟩
    have e := ih (j + 1) (by omega)
    rw [← nI_1] at e
    exact e
theorem cp_0 : va_cpy zi zi 0 0 8 = zi := by
  funext j
  simp [va_cpy]
theorem fr_tc {post : Int64 → (ct_Sc × (Nat → Int32) × (Nat → Int32) × ct_In × (Nat → Int32) × ct_Ma × (Nat → Int32) × ct_Ma × (Nat → Int32) × (Nat → Int64) × ct_As) → Prop} {o : ct_Sc} {a : ct_As} {k : Int32} (h0 : ¬ k < 0) (h64 : k ≤ 64) (h : post c0 (o, zi, zi, 0, zi, (0, 0, 0, 0, 0, 0), zi, (0, 0, 0, 0, 0, 0), zi, t0, a)) : wp_Sc_trueCommitment post (o, zi, zi, 0, zi, (0, 0, 0, 0, 0, 0), zi, (0, 0, 0, 0, 0, 0), zi, zj, a) k := by
  obtain ⟨K, hK, rfl⟩ := nI_of2 (M := 64) (n := 64) (by decide) h0 h64
  refine ⟨fun _ => ⟨K + 1, ?_⟩, fun _ => ⟨K + 1, ?_⟩⟩
  · have e := fr_run (post := fun u3 => wp_Ma_commitment (fun r4 u5 => post r4 (u3.1, u3.2.1, u3.2.2.1, u3.2.2.2.1, u3.2.2.2.2.1, u3.2.2.2.2.2.1, u3.2.2.2.2.2.2.1, u5.1, u5.2.1, u5.2.2, a)) (u3.2.2.2.2.2.2.2.1, u3.2.2.2.2.2.2.2.2, zj)) (u := (o, zi, zi, 0, zi, (0, 0, 0, 0, 0, 0), zi, (0, 0, 0, 0, 0, 0), zi)) (k2 := 0) (u2 := ((0, 0, 0, 0, 0, 0), va_cpy zi zi 0 0 8, (0, 0, 0, 0, 0, 0), zi)) (K := K) (by omega) (pu_Ma_commitment h) K 0 (by omega)
    rw [cp_0] at e
    show wl_Sc_runScratch_13 _ _ _ _ ((0, 0, 0, 0, 0, 0), va_cpy zi zi 0 0 8, (0, 0, 0, 0, 0, 0), zi) (K + 1) 0 zi zi 0 zi (0, 0, 0, 0, 0, 0) (va_cpy zi zi 0 0 8)
    rw [cp_0]
    exact e
  · have e := fr_run (post := fun u3 => wp_Ma_commitment (fun r4 u5 => post r4 (u3.1, u3.2.1, u3.2.2.1, u3.2.2.2.1, u3.2.2.2.2.1, u3.2.2.2.2.2.1, u3.2.2.2.2.2.2.1, u5.1, u5.2.1, u5.2.2, a)) (u3.2.2.2.2.2.2.2.1, u3.2.2.2.2.2.2.2.2, zj)) (u := (o, zi, zi, 0, zi, (0, 0, 0, 0, 0, 0), zi, (0, 0, 0, 0, 0, 0), zi)) (k2 := a.2.2.2.2.1) (u2 := ((0, 0, 0, 0, 0, 0), va_cpy zi zi 0 0 8, (0, 0, 0, 0, 0, 0), zi)) (K := K) (by omega) (pu_Ma_commitment h) K 0 (by omega)
    rw [cp_0] at e
    show wl_Sc_runScratch_13 _ _ _ _ ((0, 0, 0, 0, 0, 0), va_cpy zi zi 0 0 8, (0, 0, 0, 0, 0, 0), zi) (K + 1) 0 zi zi 0 zi (0, 0, 0, 0, 0, 0) (va_cpy zi zi 0 0 8)
    rw [cp_0]
    exact e
theorem fr_mtc {post : Int64 → (ct_Mo × (Nat → Int32) × (Nat → Int32) × (Nat → Int32) × (Nat → Int32) × (Nat → Int32) × (Nat → Int64)) → Prop} {b d e f g i j l q r : Int32} {w : Int64} {s : Int64} {k : Int32} (h0 : ¬ k < 0) (h64 : k ≤ 64) (h : ∀ t, post c0 ((b, d, e, f, g, 0, 0, w, 0, i, j, l, q, s, r), zi, zi, zi, zi, zi, t)) : wp_Mo_trueCommitment post ((b, d, e, f, g, 0, 0, w, 0, i, j, l, q, s, r), zi, zi, zi, zi, zi, t0) k := by
  obtain ⟨K, hK, rfl⟩ := nI_of2 (M := 64) (n := 64) (by decide) h0 h64
  refine ⟨fun _ => pu_Mo_take ⟨K + 1, ?_⟩, fun hn => absurd rfl hn⟩
  have hc : post (wh 0 0 0 0 0 0 (tr zi t0 1)) ((b, d, e, f, g, 0, 0, w, 0, i, j, l, q, s, r), zi, zi, zi, zi, zi, tr zi t0) := by
    rw [tr_1 zi t0 zj]
    exact h _
  have eq := fr_after (post := fun u3 => wp_Mo_commitment (fun r4 u5 => post r4 (u5.1, u3.2.1, u3.2.2.1, u3.2.2.2.1, u3.2.2.2.2.1, u5.2.1, u5.2.2)) (u3.1, u3.2.2.2.2.2, t0)) (k2 := f) (u2 := ((b, d, e, f, g, 0, 0, w, 0, i, j, l, q, s, r), zi, zi)) (o := (b, d, e, f, g, 0, 0, w, 0, i, j, l, q, s, r)) (K := K) (by omega) (pu_Mo_commitment hc) K 0 (by omega)
  show wl_Mo_after_6 _ _ _ ((b, d, e, f, g, 0, 0, w, 0, i, j, l, q, s, r), zi, tk zi zi 13) (K + 1) 0 zi zi zi (b, d, e, f, g, 0, 0, w, 0, i, j, l, q, s, r) (tk zi zi 13)
  rw [tk_0 13]
  exact eq
theorem lg_lt {x y : Int64} : lg_cmp x y < 0 ↔ x < y := by
  unfold lg_cmp
  split
  · rename_i h
    refine ⟨fun h => absurd h (by decide), fun h2 => absurd h ?_⟩
    have h2 := Int64.lt_iff_toInt_lt.mp h2
    intro h
    have h := Int64.lt_iff_toInt_lt.mp h
    omega
  · rename_i h
    split
    · rename_i h2
      subst h2
      exact ⟨fun h => absurd h (by decide), fun h2 => absurd h2 h⟩
    · rename_i h2
      refine ⟨fun _ => ?_, fun _ => by decide⟩
      have h2 : x.toInt ≠ y.toInt := fun e => h2 (Int64.toInt_inj.mp e)
      have h : ¬ y.toInt < x.toInt := fun e => h (Int64.lt_iff_toInt_lt.mpr e)
      rw [Int64.lt_iff_toInt_lt]
      omega
theorem lg_ge {x y : Int64} : 0 ≤ lg_cmp x y ↔ y ≤ x := by
  unfold lg_cmp
  split
  · rename_i h
    have h := Int64.lt_iff_toInt_lt.mp h
    refine ⟨fun _ => Int64.le_iff_toInt_le.mpr (by omega), fun _ => by decide⟩
  · rename_i h
    split
    · rename_i h2
      subst h2
      exact ⟨fun _ => Int64.le_iff_toInt_le.mpr (Int.le_refl _), fun h => by decide⟩
    · rename_i h2
      refine ⟨fun h => absurd h (by decide), fun h3 => ?_⟩
      have h2 : x.toInt ≠ y.toInt := fun e => h2 (Int64.toInt_inj.mp e)
      have h : ¬ y.toInt < x.toInt := fun e => h (Int64.lt_iff_toInt_lt.mpr e)
      have h3 := Int64.le_iff_toInt_le.mp h3
      omega
theorem vp_l8 {x : Int64} (h0 : ¬ x < 0) (h8 : ¬ 8 ≤ x) : vp_in x.toInt32 8 := by
  have h0 : ¬ x.toInt < 0 := fun e => h0 (Int64.lt_iff_toInt_lt.mpr e)
  have h8 : ¬ 8 ≤ x.toInt := fun e => h8 (Int64.le_iff_toInt_le.mpr e)
  rw [vp_in_iff, Int64.toInt_toInt32, Int.bmod_eq_of_le (by omega) (by omega)]
  omega
theorem pu_cz0 {post : Int64 → (ct_Ma × (Nat → Int32)) → Prop} {m : ct_Ma} {k : Int64} (h : post 0 (m, zi)) : wp_Ma_cellOrZero post (m, zi) k := by
  refine ⟨fun _ => h, fun h0 => ⟨fun _ => h, fun h8 => ⟨vp_l8 (fun e => h0 (lg_lt.mpr e)) (fun e => h8 (lg_ge.mpr e)), h⟩⟩⟩
set_option maxHeartbeats 4000000 in
set_option maxRecDepth 100000 in
theorem p1_loop (xs : Nat → Int32) : wl_La_law_23 5 xs 2 0 (0, 0, 0, c0) b4 zi zi 0 zi (0, 0, 0, 0, 0, 0) zi t0 (0, 0, 0, 0, 0, 0) zi zj 0 zi zi zi (0, 0) (0, 0, 0, 0, 0, 0) zi zj (0, 0, 0, 0, 0, 0, 0) (0, 0, 0, 0, 0, 0, 0, 0, 0) (0, 0, 0, 0, 0, 0, 0, 0, 0) (0, 0, 0, 0, 0, 0, 0, 0, 0) (0, 0, 0, 0, 0, 0, 0, c0, 0, 0, 0, 0, 0, 0, 0) zi zi b4 zi zi zi zi zi zi zi zi zi zj zj zi zj zi zi t0 zj (fun _ => 0) 49 641 := by
  refine ⟨by decide, by decide, fun h => absurd h (by decide), fun _ => ⟨v0, fun kk ekk => ?_⟩⟩
  clear ekk
  simp only [p1_ex, v1, v2, v3, v4, true_and]
  generalize xs ((0 : Int32) + 1).toNatClampNeg = k1
  generalize xs ((0 : Int32) + 2).toNatClampNeg = k2
  generalize xs ((0 : Int32) + 3).toNatClampNeg = k3
  generalize xs ((0 : Int32) + 4).toNatClampNeg = k4
  refine ⟨fun _ => trivial, fun _ => ⟨fun _ => trivial, fun _ => ⟨fun _ => ?_, fun _ => ⟨fun _ => ?_, fun _ => ⟨fun _ => ?_, fun _ => ⟨fun _ => ?_, fun _ => ⟨fun _ => ?_, fun _ => ⟨fun _ => ?_, fun _ => ⟨fun _ => ?_, fun _ => ⟨fun _ => ?_, fun _ => ⟨fun _ => ?_, fun _ => ⟨fun _ => ?_, fun _ => ⟨fun _ => ?_, fun _ => ⟨fun _ => ?_, fun _ => ⟨fun _ => ?_, fun _ => ⟨fun _ => ?_, fun _ => ⟨fun _ => ?_, fun _ => ⟨fun _ => ?_, fun _ => ⟨fun _ => ?_, fun _ => ⟨fun _ => ?_, fun _ => trivial⟩⟩⟩⟩⟩⟩⟩⟩⟩⟩⟩⟩⟩⟩⟩⟩⟩⟩⟩⟩
  · -- code
    by_cases h1 : k1 < 0
    · simp [wp_Sc_code, wp_Mo_code, h1]
    by_cases h2 : 15 < k1
    · simp [wp_Sc_code, wp_Mo_code, h1, i16_15, h2]
    by_cases h3 : k2 < 0
    · simp [wp_Sc_code, wp_Mo_code, h1, i16_15, h2, h3]
    by_cases h4 : 13 < k2
    · simp [wp_Sc_code, wp_Mo_code, h1, i16_15, h2, h3, h4]
    have hv : vp_in k1 16 := i_in2 (M := 15) (by decide) h1 h2
    simp [wp_Sc_code, wp_Mo_code, h1, i16_15, h2, h3, h4, hv]
  · -- deposit
    by_cases h1 : k1 < 0
    · simp [wp_La_deposit, wp_Sc_deposit, wp_Sc_requireParty, wp_Sc_isParty, wp_Mo_deposit, wp_Mo_isParty, wp_Mo_raise, wp_Mo_thrown, h1]
    by_cases h2 : 3 < k1
    · simp [wp_La_deposit, wp_Sc_deposit, wp_Sc_requireParty, wp_Sc_isParty, wp_Mo_deposit, wp_Mo_isParty, wp_Mo_raise, wp_Mo_thrown, h1, i4_3, h2]
    have hv : vp_in k1 4 := i_in2 (M := 3) (by decide) h1 h2
    by_cases h3 : 1 ≤ k2
    · by_cases h4 : b4 k1.toNatClampNeg < k2
      · simp [wp_La_deposit, wp_Sc_deposit, wp_Sc_requireParty, wp_Sc_isParty, wp_Mo_deposit, wp_Mo_isParty, wp_Mo_raise, wp_Mo_thrown, h1, i4_3, h2, hv, h3, h4]
      · simp [wp_La_deposit, wp_Sc_deposit, wp_Sc_requireParty, wp_Sc_isParty, wp_Mo_deposit, wp_Mo_isParty, wp_Mo_raise, wp_Mo_thrown, wp_In_room, wp_In_add, wp_Mo_push, w60_0, w60_1, w60_2, lgc, upL, h1, i4_3, h2, hv, h3, h4]
    · simp [wp_La_deposit, wp_Sc_deposit, wp_Sc_requireParty, wp_Sc_isParty, wp_Mo_deposit, wp_Mo_isParty, wp_Mo_raise, wp_Mo_thrown, h1, i4_3, h2, hv, h3]
  · -- send
    simp [wp_La_send, wp_Sc_send, wp_Mo_send, wp_Mo_raise, wp_Mo_thrown, wp_In_room, wp_In_add, wp_Mo_push, w60_0, lgc, upL]
  · -- claim
    by_cases h1 : k1 < 0
    · simp [wp_La_claim, wp_Sc_claim, wp_Sc_requireParty, wp_Sc_isParty, wp_Mo_claim, wp_Mo_isParty, wp_Mo_raise, wp_Mo_thrown, h1]
    by_cases h2 : 3 < k1
    · simp [wp_La_claim, wp_Sc_claim, wp_Sc_requireParty, wp_Sc_isParty, wp_Mo_claim, wp_Mo_isParty, wp_Mo_raise, wp_Mo_thrown, h1, i4_3, h2]
    have hv : vp_in k1 4 := i_in2 (M := 3) (by decide) h1 h2
    by_cases h3 : k2 < 1
    · simp [wp_La_claim, wp_Sc_claim, wp_Sc_requireParty, wp_Sc_isParty, wp_Mo_claim, wp_Mo_isParty, wp_Mo_raise, wp_Mo_thrown, h1, i4_3, h2, h3]
    by_cases h4 : k2 ≤ 64
    · have h5 : ¬ k2 < 0 := i_n1 h3
      by_cases h6 : 100 ≤ b4 k1.toNatClampNeg
      · simp only [wp_La_claim, wp_Sc_claim, wp_Sc_requireParty, wp_Sc_isParty, wp_Sc_takeStake, wp_As_open, h1, i4_3, h2, hv, h3, h4, h6, not_false_eq_true, not_true_eq_false, false_implies, true_implies, and_true, true_and, forall_eq, one_ne_i]
        refine fr_tc h5 h4 ?_
        simp only [wp_Mo_claim, wp_Mo_isParty, wp_Mo_raise, wp_Mo_thrown, h1, i4_3, h2, hv, h3, h4, h6, not_false_eq_true, not_true_eq_false, false_implies, true_implies, and_true, true_and, forall_eq, one_ne_i]
        refine fr_mtc h5 h4 (fun t => ?_)
        simp [upL, lgc]
      · simp [wp_La_claim, wp_Sc_claim, wp_Sc_requireParty, wp_Sc_isParty, wp_Sc_takeStake, wp_Mo_claim, wp_Mo_isParty, wp_Mo_raise, wp_Mo_thrown, h1, i4_3, h2, hv, h3, h4, h6]
    · simp [wp_La_claim, wp_Sc_claim, wp_Sc_requireParty, wp_Sc_isParty, wp_Mo_claim, wp_Mo_isParty, wp_Mo_raise, wp_Mo_thrown, h1, i4_3, h2, hv, h3, h4]
  · -- challenge
    by_cases h1 : k1 < 0
    · simp [wp_La_challenge, wp_Sc_challenge, wp_Sc_requireParty, wp_Sc_isParty, wp_Mo_challenge, wp_Mo_isParty, wp_Mo_raise, wp_Mo_thrown, h1]
    by_cases h2 : 3 < k1
    · simp [wp_La_challenge, wp_Sc_challenge, wp_Sc_requireParty, wp_Sc_isParty, wp_Mo_challenge, wp_Mo_isParty, wp_Mo_raise, wp_Mo_thrown, h1, i4_3, h2]
    simp [wp_La_challenge, wp_Sc_challenge, wp_Sc_requireParty, wp_Sc_isParty, wp_Mo_challenge, wp_Mo_isParty, wp_Mo_raise, wp_Mo_thrown, h1, i4_3, h2]
    exact ⟨1, by simp [wl_Mo_challenge_36, wp_Mo_raise, wp_Mo_thrown]⟩
  · -- post
    by_cases h1 : k1 < 0
    · simp [wp_La_post, wp_Sc_post, wp_Sc_gameWithDuty, wp_Sc_isGame, wp_Mo_post, wp_Mo_isGame, wp_Mo_raise, wp_Mo_thrown, h1]
    have h2 : 0 ≤ k1 := i_le h1
    simp [wp_La_post, wp_Sc_post, wp_Sc_gameWithDuty, wp_Sc_isGame, wp_Mo_post, wp_Mo_isGame, wp_Mo_raise, wp_Mo_thrown, h1, h2]
  · -- pick
    by_cases h1 : k1 < 0
    · simp [wp_La_pick, wp_Sc_pick, wp_Sc_gameWithDuty, wp_Sc_isGame, wp_Mo_pick, wp_Mo_isGame, wp_Mo_raise, wp_Mo_thrown, h1]
    have h2 : 0 ≤ k1 := i_le h1
    simp [wp_La_pick, wp_Sc_pick, wp_Sc_gameWithDuty, wp_Sc_isGame, wp_Mo_pick, wp_Mo_isGame, wp_Mo_raise, wp_Mo_thrown, h1, h2]
  · -- prove
    by_cases h1 : k1 < 0
    · simp [wp_La_prove, wp_Sc_prove, wp_Sc_gameWithDuty, wp_Sc_isGame, wp_Mo_prove, wp_Mo_isGame, wp_Mo_raise, wp_Mo_thrown, h1]
    have h2 : 0 ≤ k1 := i_le h1
    simp [wp_La_prove, wp_Sc_prove, wp_Sc_gameWithDuty, wp_Sc_isGame, wp_Mo_prove, wp_Mo_isGame, wp_Mo_raise, wp_Mo_thrown, h1, h2]
  · -- block
    intro f1 e1
    subst e1
    refine ⟨1, fun _ => ?_, fun hn => absurd (by decide) hn⟩
    refine ⟨fun _ => ?_, fun hn => absurd rfl hn⟩
    intro f1 e1
    subst e1
    refine ⟨1, fun _ => ?_, fun hn => absurd rfl hn⟩
    refine ⟨fun _ => ?_, fun hn => absurd rfl hn⟩
    exact ⟨fun _ => trivial, fun hn => absurd rfl hn⟩
  · -- draw
    by_cases h1 : k1 < 0
    · simp [wp_La_draw, wp_Sc_draw, wp_Mo_draw, wp_Mo_raise, wp_Mo_thrown, h1]
    simp [wp_La_draw, wp_Sc_draw, wp_Mo_draw, wp_Mo_raise, wp_Mo_thrown, h1]
  · -- balance
    by_cases h1 : k1 < 0
    · simp [wp_Sc_balance, wp_Sc_isParty, wp_Mo_balance, wp_Mo_isParty, h1]
    by_cases h2 : 3 < k1
    · simp [wp_Sc_balance, wp_Sc_isParty, wp_Mo_balance, wp_Mo_isParty, h1, i4_3, h2]
    have hv : vp_in k1 4 := i_in2 (M := 3) (by decide) h1 h2
    simp [wp_Sc_balance, wp_Sc_isParty, wp_Mo_balance, wp_Mo_isParty, h1, i4_3, h2, hv]
  · -- pot
    simp [wp_Sc_pot, wp_Mo_pot]
  · -- word
    by_cases h1 : k1 < 0
    · simp [wp_Sc_word, wp_In_at, wp_Mo_word, wp_Mo_wordAt, h1]
    have h2 : 0 ≤ k1 := i_le h1
    simp [wp_Sc_word, wp_In_at, wp_Mo_word, wp_Mo_wordAt, h1, h2]
  · -- truth
    by_cases h1 : k1 < 0
    · simp [wp_Sc_truth, wp_Mo_truth, h1, lgc]
    by_cases h4 : k1 ≤ 64
    · refine ⟨fun h => absurd h h1, fun _ => ⟨fun _ => fr_tc h1 h4 ?_, fun h => absurd h4 h⟩⟩
      refine ⟨fun h => absurd h h1, fun _ => ⟨fun _ => fr_mtc h1 h4 (fun t => ?_), fun h => absurd h4 h⟩⟩
      simp [lgc]
    · simp [wp_Sc_truth, wp_Mo_truth, h1, h4, lgc]
  · -- base
    simp [wp_Sc_base, wp_Mo_base, lgc]
  · -- state
    have hm : wp_Mo_state (fun r u => (lg_cmp 0 r = 0 → True) ∧ (¬ lg_cmp 0 r = 0 → False)) ((0, 0, 0, 0, 0, 0, 0, c0, 0, 0, 0, 0, 0, 0, 0), zi) k1 := by
      refine ⟨fun _ => by simp [lgc], fun h1 => ⟨fun h2 => ⟨fun h3 => ⟨fun _ => by simp [lgc], fun h4 => ⟨?_, by simp [lgc]⟩⟩, fun h3 => ⟨?_, by simp [lgc]⟩⟩, fun _ => by simp [lgc]⟩⟩
      · obtain ⟨K, hK, rfl⟩ := nI_of2 (M := 13) (n := 13) (by decide) h1 h2
        have h3 : 5 ≤ K := (nI_leI (a := 5) (by decide) (by omega)).mp h3
        rw [show (1 : Int32) = nI 1 from rfl, pk_sub (by omega)]
        exact vp_in_nI (by omega) (by decide)
      · obtain ⟨K, hK, rfl⟩ := nI_of2 (M := 13) (n := 13) (by decide) h1 h2
        have h3 : ¬ 5 ≤ K := fun e => h3 ((nI_leI (a := 5) (by decide) (by omega)).mpr e)
        exact vp_in_nI (by omega) (by decide)
    exact ⟨fun _ => pu_cz0 hm, fun h0 => ⟨fun _ => pu_cz0 hm, fun h5 => ⟨fun _ => hm, fun _ => ⟨fun _ => hm, fun _ => ⟨fun _ => hm, fun _ => ⟨fun _ => hm, fun _ => ⟨fun _ => hm, fun _ => ⟨fun _ => hm, fun _ => trivial⟩⟩⟩⟩⟩⟩⟩⟩
  · -- assertion
    simp [wp_Sc_assertion, wp_Mo_assertion, lgc]
  · -- game
    by_cases h1 : k1 < 0
    · simp [wp_Sc_game, wp_Sc_isGame, wp_Mo_game, wp_Mo_isGame, lgc, h1]
    have h2 : 0 ≤ k1 := i_le h1
    simp [wp_Sc_game, wp_Sc_isGame, wp_Mo_game, wp_Mo_isGame, lgc, h1, h2]
theorem pu_law {L : Nat} {xs : Nat → Int32} (hL : L ≤ 5) : wp_La_law L xs := by
  simp only [wp_La_law, wp_Sc_init, wp_Co_init, wp_In_init, wp_Ma_init, wp_Pa_init, wp_Pr_init, wp_As_init, wp_Ga_init]
  refine pu_Ma_commitment ?_
  unfold wp_Mo_init
  refine pu_Mo_take ?_
  refine pu_Mo_commitment ?_
  rcases (show L = 5 ∨ L < 5 by omega) with rfl | h
  · refine ⟨2, ?_⟩
    have e := tk_0 13
    rw [show tk (fun _ => 0) (fun _ => 0) 13 = fun _ => 0 from e]
    exact p1_loop xs
  · refine ⟨1, by decide, by decide, fun _ => trivial, fun hn => absurd ?_ hn⟩
    rcases (show L = 0 ∨ L = 1 ∨ L = 2 ∨ L = 3 ∨ L = 4 by omega) with rfl | rfl | rfl | rfl | rfl <;> decide
