/-! the pure part: what the methods compute -/
/-- the mixing function of both sides -/
def mx (a b : Int64) : Int64 :=
  let y1 := (a + (b * 6364136223846793005)) ^^^ 3935559000370003845
  let y2 := y1 ^^^ ((y1.toUInt64 >>> ((31 : Int32).toInt64.toUInt64 &&& Int64.toUInt64 63)).toInt64)
  let y3 := y2 * (-7723592293110705685)
  y3 ^^^ ((y3.toUInt64 >>> ((27 : Int32).toInt64.toUInt64 &&& Int64.toUInt64 63)).toInt64)
def mp (u v : Int64) : Int64 := mx (mx 2 u) v
def wh (pc a b rd pd tr rt : Int64) : Int64 := mx (mx (mx (mx (mx (mx (mx 0 pc) a) b) rd) pd) tr) rt
theorem pu_Mi_mix {post : Int64 → Unit → Prop} {u : Unit} {a b : Int64} (h : post (mx a b) ()) : wp_Mi_mix post u a b := by
  intro y1 e1 y2 e2 y3 e3 y4 e4
  subst e1; subst e2; subst e3; subst e4
  exact h
theorem pu_Mo_mix {post : Int64 → Unit → Prop} {u : Unit} {a b : Int64} (h : post (mx a b) ()) : wp_Mo_mix post u a b := by
  intro y1 e1 y2 e2 y3 e3
  subst e1; subst e2; subst e3
  exact h
theorem pu_Mi_mixLeaf {post : Int64 → Unit → Prop} {u : Unit} {k : Int32} (h : post (mx 1 k.toInt64) ()) : wp_Mi_mixLeaf post u k := pu_Mi_mix h
theorem pu_Mi_mixPair {post : Int64 → Unit → Prop} {u : Unit} {a b : Int64} (h : post (mp a b) ()) : wp_Mi_mixPair post u a b := pu_Mi_mix (pu_Mi_mix h)
theorem pu_Mo_pair {post : Int64 → Unit → Prop} {u : Unit} {a b : Int64} (h : post (mp a b) ()) : wp_Mo_pair post u a b := pu_Mo_mix (pu_Mo_mix h)
theorem pu_Mo_whole {post : Int64 → Unit → Prop} {u : Unit} {a b c d e f g : Int64} (h : post (wh a b c d e f g) ()) : wp_Mo_whole post u a b c d e f g := pu_Mo_mix (pu_Mo_mix (pu_Mo_mix (pu_Mo_mix (pu_Mo_mix (pu_Mo_mix (pu_Mo_mix h))))))
/-- the leaves, then the nodes, of the cells c laid into x -/
def lf (c : Nat → Int32) (x : Nat → Int64) : Nat → Nat → Int64
  | 0 => x
  | n + 1 => vp_updL (lf c x n) (8 + n) (mx 1 (c n).toInt64)
def nd (x : Nat → Int64) : Nat → Nat → Int64
  | 0 => x
  | n + 1 => vp_updL (nd x n) (7 - n) (mp (nd x n (2 * (7 - n))) (nd x n (2 * (7 - n) + 1)))
def tr (c : Nat → Int32) (x : Nat → Int64) : Nat → Int64 := nd (lf c x 8) 7
theorem nd_step (x : Nat → Int64) {k : Nat} (hk : k + 1 ≤ 7) : nd x (7 - k) = vp_updL (nd x (7 - (k + 1))) (k + 1) (mp (nd x (7 - (k + 1)) (2 * (k + 1))) (nd x (7 - (k + 1)) (2 * (k + 1) + 1))) := by
  have h1 : 7 - k = (7 - (k + 1)) + 1 := by omega
  have h2 : 7 - (7 - (k + 1)) = k + 1 := by omega
  rw [h1]
  show vp_updL _ (7 - (7 - (k + 1))) _ = _
  rw [h2]
theorem nI_lt1 {k : Nat} (hk : k < 2 ^ 31) : nI k < 1 ↔ k < 1 := nI_ltI hk (by decide)
theorem nI_2m (k : Nat) : (2 : Int32) * nI k = nI (2 * k) := pk_mul 2 k
theorem nI_8a (k : Nat) : (8 : Int32) + nI k = nI (8 + k) := nI_add 8 k
theorem nI_5a (k : Nat) : (5 : Int32) + nI k = nI (5 + k) := nI_add 5 k
theorem pu_g35 {post : (ct_Ma × (Nat → Int32) × (Nat → Int64)) → Prop} {u : ct_Ma × (Nat → Int32) × (Nat → Int64)} {x : Nat → Int64} (h : post (u.1, u.2.1, nd x 7)) : ∀ k, k ≤ 7 → wl_Ma_growTree_35 post u (k + 1) (nI k) (nd x (7 - k)) := by
  intro k
  induction k with
  | zero => intro _; exact ⟨fun _ => h, fun hn => absurd ((nI_lt1 (by decide)).mpr (by decide)) hn⟩
  | succ k ih =>
    intro hk
    have ih := ih (by omega)
    refine ⟨fun hn => absurd ((nI_lt1 (by omega)).mp hn) (by omega), fun _ => ?_⟩
    rw [nI_2m, nI_1]
    refine ⟨vp_in_nI (by omega) (by decide), vp_in_nI (by omega) (by decide), pu_Mi_mixPair ⟨vp_in_nI (by omega) (by decide), ?_⟩⟩
    rw [pk_m1, nI_clamp (by omega), nI_clamp (by omega), nI_clamp (by omega), ← nd_step x hk]
    exact ih
theorem pu_o39 {post : (ct_Mo × (Nat → Int32) × (Nat → Int64)) → Prop} {u : ct_Mo × (Nat → Int32) × (Nat → Int64)} {x : Nat → Int64} (h : post (u.1, u.2.1, nd x 7)) : ∀ k, k ≤ 7 → wl_Mo_tree_39 post u (k + 1) (nI k) (nd x (7 - k)) := by
  intro k
  induction k with
  | zero => intro _; exact ⟨fun _ => h, fun hn => absurd ((nI_lt1 (by decide)).mpr (by decide)) hn⟩
  | succ k ih =>
    intro hk
    have ih := ih (by omega)
    refine ⟨fun hn => absurd ((nI_lt1 (by omega)).mp hn) (by omega), fun _ => ?_⟩
    rw [nI_2m, nI_1]
    refine ⟨vp_in_nI (by omega) (by decide), vp_in_nI (by omega) (by decide), pu_Mo_pair ⟨vp_in_nI (by omega) (by decide), ?_⟩⟩
    rw [pk_m1, nI_clamp (by omega), nI_clamp (by omega), nI_clamp (by omega), ← nd_step x hk]
    exact ih
theorem nI_8le {k : Nat} (hk : k < 2 ^ 31) : (8 : Int32) ≤ nI k ↔ 8 ≤ k := nI_leI (by decide) hk
theorem nI_13le {k : Nat} (hk : k < 2 ^ 31) : (13 : Int32) ≤ nI k ↔ 13 ≤ k := nI_leI (by decide) hk
theorem pu_g2 {post : (ct_Ma × (Nat → Int32) × (Nat → Int64)) → Prop} {u : ct_Ma × (Nat → Int32) × (Nat → Int64)} {x : Nat → Int64} (h : post (u.1, u.2.1, tr u.2.1 x)) : ∀ j k, j + k = 8 → wl_Ma_growTree_2 post u (j + 1) (nI k) (lf u.2.1 x k) := by
  intro j
  induction j with
  | zero =>
    intro k hk
    have hk : k = 8 := by omega
    subst hk
    exact ⟨fun _ => ⟨8, pu_g35 h 7 (Nat.le_refl _)⟩, fun hn => absurd ((nI_8le (by decide)).mpr (by decide)) hn⟩
  | succ j ih =>
    intro k hk
    have ih := ih (k + 1) (by omega)
    refine ⟨fun hn => absurd ((nI_8le (by omega)).mp hn) (by omega), fun _ => ⟨vp_in_nI (by omega) (by decide), pu_Mi_mixLeaf ?_⟩⟩
    rw [nI_8a, nI_clamp (by omega), nI_clamp (by omega), nI_1]
    exact ⟨vp_in_nI (by omega) (by decide), ih⟩
theorem pu_o2 {post : (ct_Mo × (Nat → Int32) × (Nat → Int64)) → Prop} {u : ct_Mo × (Nat → Int32) × (Nat → Int64)} {x : Nat → Int64} (h : post (u.1, u.2.1, tr (fun i => u.2.1 (5 + i)) x)) : ∀ j k, j + k = 8 → wl_Mo_tree_2 post u (j + 1) (nI k) (lf (fun i => u.2.1 (5 + i)) x k) := by
  intro j
  induction j with
  | zero =>
    intro k hk
    have hk : k = 8 := by omega
    subst hk
    exact ⟨fun _ => ⟨8, pu_o39 h 7 (Nat.le_refl _)⟩, fun hn => absurd ((nI_8le (by decide)).mpr (by decide)) hn⟩
  | succ j ih =>
    intro k hk
    have ih := ih (k + 1) (by omega)
    refine ⟨fun hn => absurd ((nI_8le (by omega)).mp hn) (by omega), fun _ => ?_⟩
    rw [nI_5a, nI_8a, nI_clamp (by omega), nI_clamp (by omega), nI_1]
    exact ⟨vp_in_nI (by omega) (by decide), pu_Mo_mix ⟨vp_in_nI (by omega) (by decide), ih⟩⟩
theorem pu_Ma_growTree {post : (ct_Ma × (Nat → Int32) × (Nat → Int64)) → Prop} {u : ct_Ma × (Nat → Int32) × (Nat → Int64)} (h : post (u.1, u.2.1, tr u.2.1 u.2.2)) : wp_Ma_growTree post u := ⟨9, pu_g2 h 8 0 rfl⟩
theorem pu_Mo_tree {post : (ct_Mo × (Nat → Int32) × (Nat → Int64)) → Prop} {u : ct_Mo × (Nat → Int32) × (Nat → Int64)} (h : post (u.1, u.2.1, tr (fun i => u.2.1 (5 + i)) u.2.2)) : wp_Mo_tree post u := ⟨9, pu_o2 h 8 0 rfl⟩
/-- the commitment of a machine's words over a tree -/
def cm (m : ct_Ma) (t : Nat → Int64) : Int64 := wh m.1.toInt64 m.2.1.toInt64 m.2.2.1.toInt64 m.2.2.2.1.toInt64 m.2.2.2.2.1.toInt64 m.2.2.2.2.2 (t 1)
theorem pu_Ma_cw {post : Int64 → ct_Ma → Prop} {u : ct_Ma} {k : Int64} (h : post (wh u.1.toInt64 u.2.1.toInt64 u.2.2.1.toInt64 u.2.2.2.1.toInt64 u.2.2.2.2.1.toInt64 u.2.2.2.2.2 k) u) : wp_Ma_commitmentWith post u k := pu_Mi_mix (pu_Mi_mix (pu_Mi_mix (pu_Mi_mix (pu_Mi_mix (pu_Mi_mix (pu_Mi_mix h))))))
theorem pu_Ma_commitment {post : Int64 → (ct_Ma × (Nat → Int32) × (Nat → Int64)) → Prop} {u : ct_Ma × (Nat → Int32) × (Nat → Int64)} (h : post (cm u.1 (tr u.2.1 u.2.2)) (u.1, u.2.1, tr u.2.1 u.2.2)) : wp_Ma_commitment post u := pu_Ma_growTree (pu_Ma_cw h)
theorem pu_Mo_commitment {post : Int64 → (ct_Mo × (Nat → Int32) × (Nat → Int64)) → Prop} {u : ct_Mo × (Nat → Int32) × (Nat → Int64)} (h : post (wh (u.2.1 0).toInt64 (u.2.1 1).toInt64 (u.2.1 2).toInt64 (u.2.1 3).toInt64 (u.2.1 4).toInt64 u.1.2.2.2.2.2.2.1 (tr (fun i => u.2.1 (5 + i)) u.2.2 1)) (u.1, u.2.1, tr (fun i => u.2.1 (5 + i)) u.2.2)) : wp_Mo_commitment post u := pu_Mo_tree (pu_Mo_whole h)
/-- the true state taken into the hand -/
def tk (r x : Nat → Int32) : Nat → Nat → Int32
  | 0 => x
  | n + 1 => upd (tk r x n) n (r n)
abbrev mo_tk (o : ct_Mo) : ct_Mo := (o.1, o.2.1, o.2.2.1, o.2.2.2.1, o.2.2.2.2.1, o.2.2.2.2.2.1, o.2.2.2.2.2.1, o.2.2.2.2.2.2.2.1, o.2.2.2.2.2.2.2.2.1, o.2.2.2.2.2.2.2.2.2.1, o.2.2.2.2.2.2.2.2.2.2.1, o.2.2.2.2.2.2.2.2.2.2.2.1, o.2.2.2.2.2.2.2.2.2.2.2.2.1, o.2.2.2.2.2.2.2.2.2.2.2.2.2.1, o.2.2.2.2.2.2.2.2.2.2.2.2.2.2)
theorem pu_t2 {post : (ct_Mo × (Nat → Int32) × (Nat → Int32)) → Prop} {u : ct_Mo × (Nat → Int32) × (Nat → Int32)} {x : Nat → Int32} (h : post (mo_tk u.1, u.2.1, tk u.2.1 x 13)) : ∀ j k, j + k = 13 → wl_Mo_take_2 post u (j + 1) (nI k) (tk u.2.1 x k) := by
  intro j
  induction j with
  | zero =>
    intro k hk
    have hk : k = 13 := by omega
    subst hk
    exact ⟨fun _ => h, fun hn => absurd ((nI_13le (by decide)).mpr (by decide)) hn⟩
  | succ j ih =>
    intro k hk
    have ih := ih (k + 1) (by omega)
    refine ⟨fun hn => absurd ((nI_13le (by omega)).mp hn) (by omega), fun _ => ⟨vp_in_nI (by omega) (by decide), fun f10 e10 => ⟨vp_in_nI (by omega) (by decide), ?_⟩⟩⟩
    rw [nI_clamp (by omega)] at e10 ⊢
    rw [nI_1, e10]
    exact ih
theorem pu_Mo_take {post : (ct_Mo × (Nat → Int32) × (Nat → Int32)) → Prop} {u : ct_Mo × (Nat → Int32) × (Nat → Int32)} (h : post (mo_tk u.1, u.2.1, tk u.2.1 u.2.2 13)) : wp_Mo_take post u := ⟨14, pu_t2 h 13 0 rfl⟩
theorem i4_3 {k : Int32} : 4 ≤ k ↔ 3 < k := by
  rw [Int32.le_iff_toInt_le, Int32.lt_iff_toInt_lt, show (4 : Int32).toInt = 4 by decide, show (3 : Int32).toInt = 3 by decide]
  omega
theorem i16_15 {k : Int32} : 16 ≤ k ↔ 15 < k := by
  rw [Int32.le_iff_toInt_le, Int32.lt_iff_toInt_lt, show (16 : Int32).toInt = 16 by decide, show (15 : Int32).toInt = 15 by decide]
  omega
theorem i_in {k : Int32} {N : Nat} {M : Int32} (hM : M.toInt = N) (h0 : ¬ k < 0) (h1 : ¬ M ≤ k) : vp_in k N := by
  rw [vp_in_iff]
  rw [Int32.lt_iff_toInt_lt, Int32.toInt_zero] at h0
  rw [Int32.le_iff_toInt_le, hM] at h1
  omega
theorem i_in2 {k : Int32} {N : Nat} {M : Int32} (hM : M.toInt + 1 = N) (h0 : ¬ k < 0) (h1 : ¬ M < k) : vp_in k N := by
  rw [vp_in_iff]
  rw [Int32.lt_iff_toInt_lt, Int32.toInt_zero] at h0
  rw [Int32.lt_iff_toInt_lt] at h1
  omega
theorem lgc (a : Int64) : lg_cmp a a = 0 := by
  simp [lg_cmp]
theorem upL (f : Nat → Int64) (k : Nat) (x : Int64) : vp_updL f k x k = x := by
  simp [vp_updL]
theorem i_le {k : Int32} (h : ¬ k < 0) : 0 ≤ k := by
  rw [Int32.lt_iff_toInt_lt, Int32.toInt_zero] at h
  rw [Int32.le_iff_toInt_le, Int32.toInt_zero]
  omega
theorem i_n1 {k : Int32} (h : ¬ k < 1) : ¬ k < 0 := by
  rw [Int32.lt_iff_toInt_lt, show (1 : Int32).toInt = 1 by decide] at h
  rw [Int32.lt_iff_toInt_lt, Int32.toInt_zero]
  omega
theorem one_ne_i : ((1 : Int32) = 0) = False := eq_false (by decide)
theorem w60_0 : vp_in (0 : Int32) 60 := show ¬ ((0 : Int32) < 0 ∨ 60 ≤ (0 : Int32).toNatClampNeg) by decide
theorem w60_1 : vp_in (1 : Int32) 60 := show ¬ ((1 : Int32) < 0 ∨ 60 ≤ (1 : Int32).toNatClampNeg) by decide
theorem w60_2 : vp_in (2 : Int32) 60 := show ¬ ((2 : Int32) < 0 ∨ 60 ≤ (2 : Int32).toNatClampNeg) by decide
theorem tr_1 (c : Nat → Int32) (x y : Nat → Int64) : tr c x 1 = tr c y 1 := by
  simp [tr, nd, lf, vp_updL]
theorem z16 : vp_in (0 : Int32) 16 := show ¬ ((0 : Int32) < 0 ∨ 16 ≤ (0 : Int32).toNatClampNeg) by decide
theorem lg_lt {x y : Int64} : lg_cmp x y < 0 ↔ x < y := by
  unfold lg_cmp
  split
  · rename_i h
    refine ⟨fun h => absurd h (by decide), fun h2 => absurd h ?_⟩
    have h2 := Int64.lt_iff_toInt_lt.mp h2
    intro h
    have h := Int64.lt_iff_toInt_lt.mp h
    omega
  · rename_i h
    split
    · rename_i h2
      subst h2
      exact ⟨fun h => absurd h (by decide), fun h2 => absurd h2 h⟩
    · rename_i h2
      refine ⟨fun _ => ?_, fun _ => by decide⟩
      have h2 : x.toInt ≠ y.toInt := fun e => h2 (Int64.toInt_inj.mp e)
      have h : ¬ y.toInt < x.toInt := fun e => h (Int64.lt_iff_toInt_lt.mpr e)
      rw [Int64.lt_iff_toInt_lt]
      omega
theorem lg_ge {x y : Int64} : 0 ≤ lg_cmp x y ↔ y ≤ x := by
  unfold lg_cmp
  split
  · rename_i h
    have h := Int64.lt_iff_toInt_lt.mp h
    refine ⟨fun _ => Int64.le_iff_toInt_le.mpr (by omega), fun _ => by decide⟩
  · rename_i h
    split
    · rename_i h2
      subst h2
      exact ⟨fun _ => Int64.le_iff_toInt_le.mpr (Int.le_refl _), fun h => by decide⟩
    · rename_i h2
      refine ⟨fun h => absurd h (by decide), fun h3 => ?_⟩
      have h2 : x.toInt ≠ y.toInt := fun e => h2 (Int64.toInt_inj.mp e)
      have h : ¬ y.toInt < x.toInt := fun e => h (Int64.lt_iff_toInt_lt.mpr e)
      have h3 := Int64.le_iff_toInt_le.mp h3
      omega
theorem vp_l8 {x : Int64} (h0 : ¬ x < 0) (h8 : ¬ 8 ≤ x) : vp_in x.toInt32 8 := by
  have h0 : ¬ x.toInt < 0 := fun e => h0 (Int64.lt_iff_toInt_lt.mpr e)
  have h8 : ¬ 8 ≤ x.toInt := fun e => h8 (Int64.le_iff_toInt_le.mpr e)
  rw [vp_in_iff, Int64.toInt_toInt32, Int.bmod_eq_of_le (by omega) (by omega)]
  omega
/-! the machine: one step, as the hand's function -/
abbrev mm (h : Nat → Int32) (t : Int64) : ct_Ma := (h 0, h 1, h 2, h 3, h 4, t)
def wv (ws : Nat → Int32) (cnt k : Int32) : Int32 := if k < 0 then 0 else if cnt ≤ k then 0 else ws k.toNatClampNeg
def sp (ops ag ws : Nat → Int32) (cnt lim : Int32) (h : Nat → Int32) (t : Int64) : (Nat → Int32) × Int64 :=
  let y3 := ops (h 0).toNatClampNeg
  let y5 := ag (h 0).toNatClampNeg
  let y6 := (h 0 + 1) - (h 0 + 1) / 16 * 16
  let y9 := 5 + (h 2 &&& 7)
  if y3 = 0 then (upd h 0 (h 0), t)
  else if y3 = 1 then (upd (upd h 1 y5) 0 y6, t)
  else if y3 = 2 then (upd (upd h 2 y5) 0 y6, t)
  else if y3 = 3 then (upd (upd (upd h 1 (h 2)) 2 (h 1)) 0 y6, t)
  else if y3 = 4 then (upd (upd h 1 (h 1 + h 2)) 0 y6, t)
  else if y3 = 5 then (upd (upd h 1 (h 1 - h 2)) 0 y6, t)
  else if y3 = 6 then (upd (upd h 1 (h 1 * h 2)) 0 y6, t)
  else if y3 = 7 then (upd (upd h 1 (h y9.toNatClampNeg)) 0 y6, t)
  else if y3 = 8 then (upd (upd h y9.toNatClampNeg (h 1)) 0 y6, t)
  else if y3 = 9 then (if lim ≤ h 3 then (upd h 0 (h 0), t) else (upd (upd (upd h 1 (wv ws cnt (h 3))) 3 (h 3 + 1)) 0 y6, t))
  else if y3 = 10 then (upd h 0 (y5 &&& 15), t)
  else if y3 = 11 then (if h 1 = 0 then (upd h 0 (y5 &&& 15), t) else (upd h 0 y6, t))
  else if y3 = 12 then (if 0 ≤ h 1 then (upd h 0 y6, t) else (upd h 0 (y5 &&& 15), t))
  else if h 4 = 30 then (upd h 0 (h 0), t) else (upd (upd h 4 (h 4 + 1)) 0 y6, mx (mx t (h 2 &&& 3).toInt64) (h 1).toInt64)
theorem y9_in (x : Int32) : vp_in (5 + (x &&& 7)) 13 := by
  obtain ⟨j, hj, e⟩ := pk_andE x (m := 7) 3 (by decide)
  rw [e, nI_5a]
  exact vp_in_nI (by omega) (by decide)
theorem y9_cl (x : Int32) : ∃ j, j < 8 ∧ x &&& 7 = nI j ∧ (x &&& 7).toNatClampNeg = j ∧ (5 + (x &&& 7)).toNatClampNeg = 5 + j ∧ vp_in (x &&& 7) 8 := by
  obtain ⟨j, hj, e⟩ := pk_andE x (m := 7) 3 (by decide)
  refine ⟨j, hj, e, ?_, ?_, ?_⟩
  · rw [e, nI_clamp (by omega)]
  · rw [e, nI_5a, nI_clamp (by omega)]
  · rw [e]; exact vp_in_nI (by omega) (by decide)
theorem pc_15 {x : Int32} (h : vp_in x 16) : x &&& 15 = x := by
  obtain ⟨j, hj, e⟩ := vp_in_of h (by decide)
  rw [e, pk_andN (by omega) 4 (by decide), Nat.mod_eq_of_lt (by omega)]
theorem pc_nx {x : Int32} (h : vp_in x 16) : (x + 1) &&& 15 = (x + 1) - (x + 1) / 16 * 16 := by
  obtain ⟨j, hj, e⟩ := vp_in_of h (by decide)
  rw [e, nI_1, pk_andN (by omega) 4 (by decide)]
  exact (pk_rem (d := 16) (by omega) (by decide) (by decide)).symm
theorem pc_in (x : Int32) : vp_in (x &&& 15) 16 := pk_andIn x 4 (by decide) (by decide)
theorem op_cs {x : Int32} (h : vp_in x 14) : x = 0 ∨ x = 1 ∨ x = 2 ∨ x = 3 ∨ x = 4 ∨ x = 5 ∨ x = 6 ∨ x = 7 ∨ x = 8 ∨ x = 9 ∨ x = 10 ∨ x = 11 ∨ x = 12 ∨ x = 13 := by
  obtain ⟨j, hj, e⟩ := vp_in_of h (by decide)
  rcases (show j = 0 ∨ j = 1 ∨ j = 2 ∨ j = 3 ∨ j = 4 ∨ j = 5 ∨ j = 6 ∨ j = 7 ∨ j = 8 ∨ j = 9 ∨ j = 10 ∨ j = 11 ∨ j = 12 ∨ j = 13 by omega) with r | r | r | r | r | r | r | r | r | r | r | r | r | r <;> subst r <;> subst e <;> decide
/-- what a step keeps -/
theorem sp_pc {ops ag ws : Nat → Int32} {cnt lim : Int32} {h : Nat → Int32} {t : Int64} (ho : ∀ i, vp_in (ops i) 14) (hp : vp_in (h 0) 16) : vp_in ((sp ops ag ws cnt lim h t).1 0) 16 := by
  have e := pc_nx hp
  have e2 : vp_in ((h 0 + 1) - (h 0 + 1) / 16 * 16) 16 := e ▸ pc_in _
  have e3 := pc_in (ag (h 0).toNatClampNeg)
  rcases op_cs (ho (h 0).toNatClampNeg) with eo | eo | eo | eo | eo | eo | eo | eo | eo | eo | eo | eo | eo | eo <;> simp only [sp, eo] <;> simp [upd, hp, e2, e3]
  · by_cases q : lim ≤ h 3 <;> simp [q, upd, hp, e2, e3]
  · by_cases q : h 1 = 0 <;> simp [q, upd, hp, e2, e3]
  · by_cases q : 0 ≤ h 1 <;> simp [q, upd, hp, e2, e3]
  · by_cases q : h 4 = 30 <;> simp [q, upd, hp, e2, e3]
theorem i32_lt {a b : Int32} : a < b ↔ a.toInt < b.toInt := Int32.lt_iff_toInt_lt
theorem i32_le {a b : Int32} : a ≤ b ↔ a.toInt ≤ b.toInt := Int32.le_iff_toInt_le
theorem st_at {post : Int32 → (ct_In × (Nat → Int32)) → Prop} {cnt k : Int32} {ws : Nat → Int32} (hn : cnt ≤ 60) (h : post (wv ws cnt k) (cnt, ws)) : wp_In_at post (cnt, ws) k := by
  by_cases h1 : k < 0
  · simpa [wp_In_at, wv, h1] using h
  by_cases h2 : cnt ≤ k
  · simpa [wp_In_at, wv, h1, h2] using h
  have h3 : ¬ 60 ≤ k := by
    rw [i32_le] at *
    omega
  have hv : vp_in k 60 := i_in (M := 60) (by decide) h1 h3
  simpa [wp_In_at, wv, h1, h2, h3, hv] using h
theorem st_wordAt {post : Int32 → (ct_Mo × (Nat → Int32)) → Prop} {o : ct_Mo} {k : Int32} {ws : Nat → Int32} (hn : o.2.2.2.1 ≤ 60) (h : post (wv ws o.2.2.2.1 k) (o, ws)) : wp_Mo_wordAt post (o, ws) k := by
  by_cases h1 : k < 0
  · simpa [wp_Mo_wordAt, wv, h1] using h
  by_cases h2 : o.2.2.2.1 ≤ k
  · simpa [wp_Mo_wordAt, wv, h1, h2] using h
  have h3 : ¬ 60 ≤ k := by
    rw [i32_le] at *
    omega
  have hv : vp_in k 60 := i_in (M := 60) (by decide) h1 h3
  simpa [wp_Mo_wordAt, wv, h1, h2, h3, hv] using h
theorem f50 (i : Nat) : (5 + i = 0) = False := eq_false (by omega)
theorem f51 (i : Nat) : (5 + i = 1) = False := eq_false (by omega)
theorem f52 (i : Nat) : (5 + i = 2) = False := eq_false (by omega)
theorem f53 (i : Nat) : (5 + i = 3) = False := eq_false (by omega)
theorem f54 (i : Nat) : (5 + i = 4) = False := eq_false (by omega)
theorem st_Ma {post : (ct_Ma × (Nat → Int32) × (Nat → Int32) × (Nat → Int32) × ct_In × (Nat → Int32)) → Prop} {ops ag ws c h : Nat → Int32} {t : Int64} {cnt lim : Int32} (ho : ∀ i, vp_in (ops i) 14) (hn : cnt ≤ 60) (hp : vp_in (h 0) 16) (hc : ∀ i, i < 8 → c i = h (5 + i)) (K : ∀ c', (∀ i, i < 8 → c' i = (sp ops ag ws cnt lim h t).1 (5 + i)) → post (mm (sp ops ag ws cnt lim h t).1 (sp ops ag ws cnt lim h t).2, c', ops, ag, cnt, ws)) : wp_Ma_step post (mm h t, c, ops, ag, cnt, ws) lim := by
  have e15 := pc_15 hp
  have enx := pc_nx hp
  intro y1 e1
  have e1 : y1 = h 0 := e1.trans e15
  subst e1
  refine ⟨hp, fun y3 e3 y4 e4 y5 e5 => ⟨hp, fun kk ek => ?_⟩⟩
  have e4 : y4 = (h 0 + 1) - (h 0 + 1) / 16 * 16 := e4.trans enx
  subst e3; subst e4; subst e5
  have ek : kk = ops (h 0).toNatClampNeg := ek
  rcases op_cs (ho (h 0).toNatClampNeg) with eo | eo | eo | eo | eo | eo | eo | eo | eo | eo | eo | eo | eo | eo <;> rw [eo] at ek <;> subst ek
  · have k := K c (by simpa [sp, eo, f50, f51, f52, f53, f54, upd] using hc)
    simp [sp, eo, mm, f50, f51, f52, f53, f54, upd] at k
    simpa using k
  · have k := K c (by simpa [sp, eo, f50, f51, f52, f53, f54, upd] using hc)
    simp [sp, eo, mm, f50, f51, f52, f53, f54, upd] at k
    simpa using k
  · have k := K c (by simpa [sp, eo, f50, f51, f52, f53, f54, upd] using hc)
    simp [sp, eo, mm, f50, f51, f52, f53, f54, upd] at k
    simpa using k
  · have k := K c (by simpa [sp, eo, f50, f51, f52, f53, f54, upd] using hc)
    simp [sp, eo, mm, f50, f51, f52, f53, f54, upd] at k
    simpa [wp_Ma_exchange] using k
  · have k := K c (by simpa [sp, eo, f50, f51, f52, f53, f54, upd] using hc)
    simp [sp, eo, mm, f50, f51, f52, f53, f54, upd] at k
    simpa using k
  · have k := K c (by simpa [sp, eo, f50, f51, f52, f53, f54, upd] using hc)
    simp [sp, eo, mm, f50, f51, f52, f53, f54, upd] at k
    simpa using k
  · have k := K c (by simpa [sp, eo, f50, f51, f52, f53, f54, upd] using hc)
    simp [sp, eo, mm, f50, f51, f52, f53, f54, upd] at k
    simpa using k
  · obtain ⟨j, hj, ej, ec, e5, hv⟩ := y9_cl (h 2)
    have k := K c (by simpa [sp, eo, f50, f51, f52, f53, f54, upd] using hc)
    simp [sp, eo, mm, f50, f51, f52, f53, f54, upd, e5, ← hc j hj] at k
    simpa [wp_Ma_cellPlace, hv, ec] using k
  · obtain ⟨j, hj, ej, ec, e5, hv⟩ := y9_cl (h 2)
    have k := K (upd c j (h 1)) (by
      intro i hi
      by_cases q : i = j
      · simp [sp, eo, mm, f50, f51, f52, f53, f54, upd, e5, q]
      · have q2 : ¬ 5 + i = 5 + j := by omega
        simp [sp, eo, mm, f50, f51, f52, f53, f54, upd, e5, q, hc i hi])
    have q0 : ¬ 0 = 5 + j := by omega
    have q1 : ¬ 1 = 5 + j := by omega
    have q2 : ¬ 2 = 5 + j := by omega
    have q3 : ¬ 3 = 5 + j := by omega
    have q4 : ¬ 4 = 5 + j := by omega
    simp [sp, eo, mm, f50, f51, f52, f53, f54, upd, e5, q1, q2, q3, q4] at k
    simpa [wp_Ma_cellPlace, hv, ec, upd] using k
  · by_cases q : lim ≤ h 3
    · have q2 : ¬ h 3 < lim := by
        rw [i32_le] at q
        rw [i32_lt]
        omega
      have k := K c (by simpa [sp, eo, f50, f51, f52, f53, f54, upd, q] using hc)
      simp [sp, eo, mm, f50, f51, f52, f53, f54, upd, q] at k
      simpa [wp_Ma_takeWord, q2] using k
    · have q2 : h 3 < lim := by
        rw [i32_le] at q
        rw [i32_lt]
        omega
      have k := K c (by simpa [sp, eo, f50, f51, f52, f53, f54, upd, q] using hc)
      simp [sp, eo, mm, f50, f51, f52, f53, f54, upd, q] at k
      have w : wp_Ma_takeWord (fun r32 u33 => (r32 = 0 → post ((h 0, u33.1.2.1, u33.1.2.2.1, u33.1.2.2.2.1, u33.1.2.2.2.2.1, u33.1.2.2.2.2.2), c, ops, ag, u33.2.1, u33.2.2)) ∧ (¬ r32 = 0 → post (((h 0 + 1) - (h 0 + 1) / 16 * 16, u33.1.2.1, u33.1.2.2.1, u33.1.2.2.2.1, u33.1.2.2.2.2.1, u33.1.2.2.2.2.2), c, ops, ag, u33.2.1, u33.2.2))) (mm h t, cnt, ws) lim :=
        ⟨fun _ => st_at hn (fun f4 e4 => by subst e4; exact ⟨fun h => absurd h (by decide), fun _ => k⟩), fun hq => absurd q2 hq⟩
      simpa using w
  · have k := K c (by simpa [sp, eo, f50, f51, f52, f53, f54, upd] using hc)
    simp [sp, eo, mm, f50, f51, f52, f53, f54, upd] at k
    simpa using k
  · by_cases q : h 1 = 0
    · have k := K c (by simpa [sp, eo, f50, f51, f52, f53, f54, upd, q] using hc)
      simp [sp, eo, mm, f50, f51, f52, f53, f54, upd, q] at k
      simpa [q] using k
    · have k := K c (by simpa [sp, eo, f50, f51, f52, f53, f54, upd, q] using hc)
      simp [sp, eo, mm, f50, f51, f52, f53, f54, upd, q] at k
      simpa [q] using k
  · by_cases q : 0 ≤ h 1
    · have k := K c (by simpa [sp, eo, f50, f51, f52, f53, f54, upd, q] using hc)
      simp [sp, eo, mm, f50, f51, f52, f53, f54, upd, q] at k
      simpa [q] using k
    · have k := K c (by simpa [sp, eo, f50, f51, f52, f53, f54, upd, q] using hc)
      simp [sp, eo, mm, f50, f51, f52, f53, f54, upd, q] at k
      simpa [q] using k
  · by_cases q : h 4 = 30
    · have k := K c (by simpa [sp, eo, f50, f51, f52, f53, f54, upd, q] using hc)
      simp [sp, eo, mm, f50, f51, f52, f53, f54, upd, q] at k
      simpa [wp_Ma_makePayment, q] using k
    · have k := K c (by simpa [sp, eo, f50, f51, f52, f53, f54, upd, q] using hc)
      simp [sp, eo, mm, f50, f51, f52, f53, f54, upd, q] at k
      have w : wp_Ma_makePayment (fun r41 u42 => (r41 = 0 → post ((h 0, u42.2.1, u42.2.2.1, u42.2.2.2.1, u42.2.2.2.2.1, u42.2.2.2.2.2), c, ops, ag, cnt, ws)) ∧ (¬ r41 = 0 → post (((h 0 + 1) - (h 0 + 1) / 16 * 16, u42.2.1, u42.2.2.1, u42.2.2.2.1, u42.2.2.2.2.1, u42.2.2.2.2.2), c, ops, ag, cnt, ws))) (mm h t) := by
        refine ⟨fun h => absurd h q, fun _ => ?_⟩
        unfold wp_Ma_receiver
        refine pu_Mi_mix ?_
        refine pu_Mi_mix ?_
        intro f8 e8
        subst e8
        exact ⟨fun h => absurd h (by decide), fun _ => by simpa using k⟩
      simpa using w
abbrev mo_h (o : ct_Mo) (t : Int64) : ct_Mo := (o.1, o.2.1, o.2.2.1, o.2.2.2.1, o.2.2.2.2.1, o.2.2.2.2.2.1, t, o.2.2.2.2.2.2.2.1, o.2.2.2.2.2.2.2.2.1, o.2.2.2.2.2.2.2.2.2.1, o.2.2.2.2.2.2.2.2.2.2.1, o.2.2.2.2.2.2.2.2.2.2.2.1, o.2.2.2.2.2.2.2.2.2.2.2.2.1, o.2.2.2.2.2.2.2.2.2.2.2.2.2.1, o.2.2.2.2.2.2.2.2.2.2.2.2.2.2)
set_option maxRecDepth 100000 in
theorem st_Mo {post : (ct_Mo × (Nat → Int32) × (Nat → Int32) × (Nat → Int32) × (Nat → Int32)) → Prop} {o : ct_Mo} {ops ag ws h : Nat → Int32} {lim : Int32} (ho : ∀ i, vp_in (ops i) 14) (hn : o.2.2.2.1 ≤ 60) (hp : vp_in (h 0) 16) (K : post (mo_h o (sp ops ag ws o.2.2.2.1 lim h o.2.2.2.2.2.2.1).2, ops, ag, ws, (sp ops ag ws o.2.2.2.1 lim h o.2.2.2.2.2.2.1).1)) : wp_Mo_step post (o, ops, ag, ws, h) lim := by
  have hv := y9_in (h 2)
  intro y1 e1
  have e1 : y1 = h 0 := e1
  subst e1
  refine ⟨hp, fun y3 e3 => ⟨hp, fun y5 e5 y6 e6 y7 e7 y8 e8 y9 e9 => ?_⟩⟩
  subst e5; subst e6; subst e7; subst e8; subst e9
  rcases op_cs (ho (h 0).toNatClampNeg) with eo | eo | eo | eo | eo | eo | eo | eo | eo | eo | eo | eo | eo | eo <;> rw [show y3 = _ from e3.trans eo] <;> clear e3 y3
  · simp [sp, eo] at K; simpa using K
  · simp [sp, eo] at K; simpa using K
  · simp [sp, eo] at K; simpa using K
  · simp [sp, eo] at K; simpa using K
  · simp [sp, eo] at K; simpa using K
  · simp [sp, eo] at K; simpa using K
  · simp [sp, eo] at K; simpa using K
  · simp [sp, eo] at K; simpa [hv] using K
  · simp [sp, eo] at K; simpa [hv] using K
  · by_cases q : lim ≤ h 3
    · simp [sp, eo, q] at K; simpa [q] using K
    · simp [sp, eo, q] at K
      have w : wp_Mo_wordAt (fun r336 u337 => (∀ f338 : Int32, f338 = (((upd h 1 r336) 3) + 1) → (post (u337.1, ops, ag, u337.2, (upd (upd (upd h 1 r336) 3 f338) 0 ((h 0 + 1) - (h 0 + 1) / 16 * 16)))))) (o, ws) (h 3) := by
        refine st_wordAt hn ?_
        intro f e
        subst e
        simpa [upd] using K
      simpa [q] using w
  · simp [sp, eo] at K; simpa using K
  · by_cases q : h 1 = 0
    · simp [sp, eo, q] at K; simpa [q] using K
    · simp [sp, eo, q] at K; simpa [q] using K
  · by_cases q : 0 ≤ h 1
    · simp [sp, eo, q] at K; simpa [q] using K
    · simp [sp, eo, q] at K; simpa [q] using K
  · by_cases q : h 4 = 30
    · simp [sp, eo, q] at K; simpa [q] using K
    · simp [sp, eo, q] at K
      have w : wp_Mo_mix (fun r330 u331 => (wp_Mo_mix (fun r332 u333 => (∀ f334 : Int32, f334 = ((h 4) + 1) → (post (mo_h o r332, ops, ag, ws, (upd (upd h 4 f334) 0 ((h 0 + 1) - (h 0 + 1) / 16 * 16)))))) () r330 ((h 1).toInt64) )) () o.2.2.2.2.2.2.1 ((h 2 &&& 3).toInt64) := by
        refine pu_Mo_mix (pu_Mo_mix ?_)
        intro f e
        subst e
        simpa using K
      simpa [q] using w
/-! many steps; the true commitment -/
def spn (ops ag ws : Nat → Int32) (cnt lim : Int32) : Nat → (Nat → Int32) → Int64 → (Nat → Int32) × Int64
  | 0, h, t => (h, t)
  | n + 1, h, t => spn ops ag ws cnt lim n (sp ops ag ws cnt lim h t).1 (sp ops ag ws cnt lim h t).2
theorem st_run {post : (ct_Sc × (Nat → Int32) × (Nat → Int32) × ct_In × (Nat → Int32) × ct_Ma × (Nat → Int32) × ct_Ma × (Nat → Int32)) → Prop} {u : ct_Sc × (Nat → Int32) × (Nat → Int32) × ct_In × (Nat → Int32) × ct_Ma × (Nat → Int32) × ct_Ma × (Nat → Int32)} {k2 : Int32} {u2 : ct_Ma × (Nat → Int32) × ct_Ma × (Nat → Int32)} {ops ag ws : Nat → Int32} {cnt : Int32} {K : Nat} (hK : K < 2 ^ 31) (ho : ∀ i, vp_in (ops i) 14) (hn : cnt ≤ 60) : ∀ n j h t c, j + n = K → vp_in (h 0) 16 → (∀ i, i < 8 → c i = h (5 + i)) → (∀ c', (∀ i, i < 8 → c' i = (spn ops ag ws cnt k2 n h t).1 (5 + i)) → post (u.1, ops, ag, cnt, ws, u2.2.2.1, u2.2.2.2, mm (spn ops ag ws cnt k2 n h t).1 (spn ops ag ws cnt k2 n h t).2, c')) → wl_Sc_runScratch_13 post u (nI K) k2 u2 (n + 1) (nI j) ops ag cnt ws (mm h t) c := by
  intro n
  induction n with
  | zero =>
    intro j h t c hj hp hc Q
    exact ⟨fun _ => Q c hc, fun hn => absurd (nI_le (by omega) (by omega)) hn⟩
  | succ n ih =>
    intro j h t c hj hp hc Q
    refine ⟨fun hn => absurd hn (nI_ge (by omega) (by omega)), fun _ => st_Ma ho hn hp hc (fun c' hc' => ?_)⟩
    have e := ih (j + 1) _ _ c' (by omega) (sp_pc ho hp) hc' Q
    rw [← nI_1] at e
    exact e
theorem st_after {post : (ct_Mo × (Nat → Int32) × (Nat → Int32) × (Nat → Int32) × (Nat → Int32) × (Nat → Int32)) → Prop} {k2 : Int32} {u2 : ct_Mo × (Nat → Int32) × (Nat → Int32)} {ops ag ws : Nat → Int32} {K : Nat} (hK : K < 2 ^ 31) (ho : ∀ i, vp_in (ops i) 14) : ∀ n j h (o : ct_Mo), j + n = K → o.2.2.2.1 ≤ 60 → vp_in (h 0) 16 → post (mo_h o (spn ops ag ws o.2.2.2.1 k2 n h o.2.2.2.2.2.2.1).2, ops, ag, ws, u2.2.1, (spn ops ag ws o.2.2.2.1 k2 n h o.2.2.2.2.2.2.1).1) → wl_Mo_after_6 post (nI K) k2 u2 (n + 1) (nI j) ops ag ws o h := by
  intro n
  induction n with
  | zero =>
    intro j h o hj hn hp Q
    exact ⟨fun _ => Q, fun hn => absurd (nI_le (by omega) (by omega)) hn⟩
  | succ n ih =>
    intro j h o hj hn hp Q
    refine ⟨fun hn => absurd hn (nI_ge (by omega) (by omega)), fun _ => st_Mo ho hn hp ?_⟩
    have e := ih (j + 1) (sp ops ag ws o.2.2.2.1 k2 h o.2.2.2.2.2.2.1).1 (mo_h o (sp ops ag ws o.2.2.2.1 k2 h o.2.2.2.2.2.2.1).2) (by omega) hn (sp_pc ho hp) Q
    rw [← nI_1] at e
    exact e
theorem tk_v (r x : Nat → Int32) : ∀ n i, tk r x n i = if i < n then r i else x i := by
  intro n
  induction n with
  | zero => intro i; simp [tk]
  | succ n ih =>
    intro i
    show upd (tk r x n) n (r n) i = _
    by_cases q : i = n
    · subst q; simp [upd]
    · have q2 : (i < n + 1) = (i < n) := by
        apply propext
        omega
      simp [upd, q, ih i, q2]
theorem tr_e {c d : Nat → Int32} (h : ∀ i, i < 8 → c i = d i) (x y : Nat → Int64) : tr c x 1 = tr d y 1 := by
  have h0 := h 0 (by omega)
  have h1 := h 1 (by omega)
  have h2 := h 2 (by omega)
  have h3 := h 3 (by omega)
  have h4 := h 4 (by omega)
  have h5 := h 5 (by omega)
  have h6 := h 6 (by omega)
  have h7 := h 7 (by omega)
  simp [tr, nd, lf, vp_updL, h0, h1, h2, h3, h4, h5, h6, h7]
/-- the commitment of a hand with a trace -/
def cv (h : Nat → Int32) (t : Int64) : Int64 := wh (h 0).toInt64 (h 1).toInt64 (h 2).toInt64 (h 3).toInt64 (h 4).toInt64 t (tr (fun i => h (5 + i)) (fun _ => 0) 1)
theorem st_cm {post : Int64 → (ct_Ma × (Nat → Int32) × (Nat → Int64)) → Prop} {h c : Nat → Int32} {t : Int64} {x : Nat → Int64} (hc : ∀ i, i < 8 → c i = h (5 + i)) (Q : ∀ x', post (cv h t) (mm h t, c, x')) : wp_Ma_commitment post (mm h t, c, x) := by
  refine pu_Ma_commitment ?_
  have e : cm (mm h t) (tr c x) = cv h t := by
    show wh _ _ _ _ _ _ (tr c x 1) = wh _ _ _ _ _ _ _
    rw [tr_e hc x (fun _ => 0)]
  show post (cm (mm h t) (tr c x)) _
  rw [e]
  exact Q _
theorem st_mcm {post : Int64 → (ct_Mo × (Nat → Int32) × (Nat → Int64)) → Prop} {o : ct_Mo} {h : Nat → Int32} {x : Nat → Int64} (Q : ∀ x', post (cv h o.2.2.2.2.2.2.1) (o, h, x')) : wp_Mo_commitment post (o, h, x) := by
  refine pu_Mo_commitment ?_
  show post (wh _ _ _ _ _ _ (tr (fun i => h (5 + i)) x 1)) _
  rw [tr_1 _ x (fun _ => 0)]
  exact Q _
/-- the hand after the true state was taken -/
def hk (rl hd : Nat → Int32) : Nat → Int32 := tk rl hd 13
theorem hk_i {rl hd : Nat → Int32} {i : Nat} (h : i < 13) : hk rl hd i = rl i := by
  unfold hk
  rw [tk_v, if_pos h]
theorem hk_mm (rl hd : Nat → Int32) (t : Int64) : mm (hk rl hd) t = mm rl t := by
  show (hk rl hd 0, hk rl hd 1, hk rl hd 2, hk rl hd 3, hk rl hd 4, t) = _
  rw [hk_i (by omega), hk_i (by omega), hk_i (by omega), hk_i (by omega), hk_i (by omega)]
theorem st_rs {post : (ct_Sc × (Nat → Int32) × (Nat → Int32) × ct_In × (Nat → Int32) × ct_Ma × (Nat → Int32) × ct_Ma × (Nat → Int32)) → Prop} {o : ct_Sc} {ops ag ws rl hd c sc : Nat → Int32} {sm : ct_Ma} {cnt lim : Int32} {t : Int64} {K : Nat} (hK : K < 2 ^ 31) (ho : ∀ i, vp_in (ops i) 14) (hn : cnt ≤ 60) (hp : vp_in (rl 0) 16) (hc : ∀ i, i < 8 → c i = rl (5 + i)) (Q : ∀ c', (∀ i, i < 8 → c' i = (spn ops ag ws cnt lim K (hk rl hd) t).1 (5 + i)) → post (o, ops, ag, cnt, ws, mm rl t, c, mm (spn ops ag ws cnt lim K (hk rl hd) t).1 (spn ops ag ws cnt lim K (hk rl hd) t).2, c')) : wp_Sc_runScratch post (o, ops, ag, cnt, ws, mm rl t, c, sm, sc) (nI K) lim := by
  refine ⟨K + 1, ?_⟩
  have e := st_run (post := post) (u := (o, ops, ag, cnt, ws, mm rl t, c, sm, sc)) (k2 := lim) (u2 := (mm rl t, va_cpy c sc 0 0 8, mm rl t, c)) (ops := ops) (ag := ag) (ws := ws) (cnt := cnt) hK ho hn K 0 (hk rl hd) t (va_cpy c sc 0 0 8) (by omega) (by rw [hk_i (by omega)]; exact hp) (fun i hi => by rw [hk_i (by omega), pk_cpy_in (by omega) (by omega), ← hc i hi]; simp) Q
  rw [hk_mm] at e
  exact e
theorem st_tc {post : Int64 → (ct_Sc × (Nat → Int32) × (Nat → Int32) × ct_In × (Nat → Int32) × ct_Ma × (Nat → Int32) × ct_Ma × (Nat → Int32) × (Nat → Int64) × ct_As) → Prop} {o : ct_Sc} {ops ag ws rl c sc : Nat → Int32} (hd : Nat → Int32) {sm : ct_Ma} {st : Nat → Int64} {cnt : Int32} {t : Int64} {a : ct_As} {K : Nat} (hK : K < 2 ^ 31) (ho : ∀ i, vp_in (ops i) 14) (hn : cnt ≤ 60) (hp : vp_in (rl 0) 16) (hc : ∀ i, i < 8 → c i = rl (5 + i)) (lim : Int32) (hl : lim = if a.1 = 0 then cnt else a.2.2.2.2.1) (Q : ∀ sm' sc' st', post (cv (spn ops ag ws cnt lim K (hk rl hd) t).1 (spn ops ag ws cnt lim K (hk rl hd) t).2) (o, ops, ag, cnt, ws, mm rl t, c, sm', sc', st', a)) : wp_Sc_trueCommitment post (o, ops, ag, cnt, ws, mm rl t, c, sm, sc, st, a) (nI K) := by
  refine ⟨fun h0 => ?_, fun h0 => ?_⟩
  · have h0 : a.1 = 0 := h0
    rw [if_pos h0] at hl
    subst hl
    exact st_rs (hd := hd) hK ho hn hp hc (fun c' hc' => st_cm hc' (fun x' => Q _ _ _))
  · have h0 : ¬ a.1 = 0 := h0
    rw [if_neg h0] at hl
    subst hl
    exact st_rs (hd := hd) hK ho hn hp hc (fun c' hc' => st_cm hc' (fun x' => Q _ _ _))
theorem st_mtc {post : Int64 → (ct_Mo × (Nat → Int32) × (Nat → Int32) × (Nat → Int32) × (Nat → Int32) × (Nat → Int32) × (Nat → Int64)) → Prop} {o : ct_Mo} {ops ag ws rl hd : Nat → Int32} {mt : Nat → Int64} {K : Nat} (hK : K < 2 ^ 31) (ho : ∀ i, vp_in (ops i) 14) (hn : o.2.2.2.1 ≤ 60) (hp : vp_in (rl 0) 16) (lim : Int32) (hl : lim = if o.2.2.2.2.2.2.2.2.1 = 0 then o.2.2.2.1 else o.2.2.2.2.2.2.2.2.2.2.2.1) (Q : ∀ t' hd' mt', post (cv (spn ops ag ws o.2.2.2.1 lim K (hk rl hd) o.2.2.2.2.2.1).1 (spn ops ag ws o.2.2.2.1 lim K (hk rl hd) o.2.2.2.2.2.1).2) (mo_h o t', ops, ag, ws, rl, hd', mt')) : wp_Mo_trueCommitment post (o, ops, ag, ws, rl, hd, mt) (nI K) := by
  have hp' : vp_in (hk rl hd 0) 16 := by rw [hk_i (by omega)]; exact hp
  refine ⟨fun h0 => pu_Mo_take ⟨K + 1, ?_⟩, fun h0 => pu_Mo_take ⟨K + 1, ?_⟩⟩
  · have h0 : o.2.2.2.2.2.2.2.2.1 = 0 := h0
    rw [if_pos h0] at hl
    subst hl
    exact st_after hK ho K 0 (hk rl hd) (mo_h o o.2.2.2.2.2.1) (by omega) hn hp' (st_mcm (fun x' => Q _ _ _))
  · have h0 : ¬ o.2.2.2.2.2.2.2.2.1 = 0 := h0
    rw [if_neg h0] at hl
    subst hl
    exact st_after hK ho K 0 (hk rl hd) (mo_h o o.2.2.2.2.2.1) (by omega) hn hp' (st_mcm (fun x' => Q _ _ _))
/-! the true state moved, with its payments -/
theorem sp_4 {ops ag ws : Nat → Int32} {cnt lim : Int32} {h : Nat → Int32} {t : Int64} (ho : ∀ i, vp_in (ops i) 14) : (sp ops ag ws cnt lim h t).1 4 = h 4 ∨ (h 4 ≠ 30 ∧ (sp ops ag ws cnt lim h t).1 4 = h 4 + 1 ∧ (sp ops ag ws cnt lim h t).1 1 = h 1 ∧ (sp ops ag ws cnt lim h t).1 2 = h 2) := by
  rcases op_cs (ho (h 0).toNatClampNeg) with eo | eo | eo | eo | eo | eo | eo | eo | eo | eo | eo | eo | eo | eo
  · left; simp [sp, eo, upd]
  · left; simp [sp, eo, upd]
  · left; simp [sp, eo, upd]
  · left; simp [sp, eo, upd]
  · left; simp [sp, eo, upd]
  · left; simp [sp, eo, upd]
  · left; simp [sp, eo, upd]
  · left; simp [sp, eo, upd]
  · obtain ⟨j, hj, ej, ec, e5, hv⟩ := y9_cl (h 2)
    have q : ¬ 4 = 5 + j := by omega
    left; simp [sp, eo, upd, e5, q]
  · by_cases q : lim ≤ h 3 <;> left <;> simp [sp, eo, upd, q]
  · left; simp [sp, eo, upd]
  · by_cases q : h 1 = 0 <;> left <;> simp [sp, eo, upd, q]
  · by_cases q : 0 ≤ h 1 <;> left <;> simp [sp, eo, upd, q]
  · by_cases q : h 4 = 30
    · left; simp [sp, eo, upd, q]
    · right; simp [sp, eo, upd, q]
theorem sp_31 {ops ag ws : Nat → Int32} {cnt lim : Int32} {h : Nat → Int32} {t : Int64} (ho : ∀ i, vp_in (ops i) 14) (h4 : vp_in (h 4) 31) : vp_in ((sp ops ag ws cnt lim h t).1 4) 31 := by
  rcases sp_4 (ag := ag) (ws := ws) (cnt := cnt) (lim := lim) (h := h) (t := t) ho with e | ⟨e, e2, -⟩
  · rw [e]; exact h4
  · obtain ⟨j, hj, ej⟩ := vp_in_of h4 (by decide)
    rw [e2, ej, nI_1]
    have : j ≠ 30 := by
      intro q
      subst q
      exact e ej
    exact vp_in_nI (by omega) (by decide)
def pp (ops ag ws : Nat → Int32) (cnt lim : Int32) : Nat → (Nat → Int32) → Int64 → (Nat → Int32) → (Nat → Int32) → (Nat → Int32) × (Nat → Int32)
  | 0, _, _, x, y => (x, y)
  | n + 1, h, t, x, y => pp ops ag ws cnt lim n (sp ops ag ws cnt lim h t).1 (sp ops ag ws cnt lim h t).2 (if (sp ops ag ws cnt lim h t).1 4 = h 4 then x else upd x (h 4).toNatClampNeg (h 2 &&& 3)) (if (sp ops ag ws cnt lim h t).1 4 = h 4 then y else upd y (h 4).toNatClampNeg (h 1))
theorem pp_to {ops ag ws : Nat → Int32} {cnt lim : Int32} : ∀ n h t x y, (∀ i, vp_in (x i) 4) → ∀ i, vp_in ((pp ops ag ws cnt lim n h t x y).1 i) 4 := by
  intro n
  induction n with
  | zero => intro h t x y hx; exact hx
  | succ n ih =>
    intro h t x y hx
    refine ih _ _ _ _ ?_
    intro i
    by_cases q : (sp ops ag ws cnt lim h t).1 4 = h 4
    · rw [if_pos q]; exact hx i
    · rw [if_neg q]
      by_cases q2 : i = (h 4).toNatClampNeg
      · simp only [upd, q2, if_true]
        exact pk_andIn _ 2 (by decide) (by decide)
      · simp only [upd, q2, if_false]
        exact hx i
theorem spn_pc {ops ag ws : Nat → Int32} {cnt lim : Int32} (ho : ∀ i, vp_in (ops i) 14) : ∀ n h t, vp_in (h 0) 16 → vp_in ((spn ops ag ws cnt lim n h t).1 0) 16 := by
  intro n
  induction n with
  | zero => intro h t hp; exact hp
  | succ n ih => intro h t hp; exact ih _ _ (sp_pc ho hp)
theorem spn_31 {ops ag ws : Nat → Int32} {cnt lim : Int32} (ho : ∀ i, vp_in (ops i) 14) : ∀ n h t, vp_in (h 4) 31 → vp_in ((spn ops ag ws cnt lim n h t).1 4) 31 := by
  intro n
  induction n with
  | zero => intro h t hp; exact hp
  | succ n ih => intro h t hp; exact ih _ _ (sp_31 ho hp)
theorem st_mv {post : (ct_Sc × (Nat → Int32) × (Nat → Int32) × ct_In × (Nat → Int32) × ct_Ma × (Nat → Int32) × ct_Pa × (Nat → Int32) × (Nat → Int32) × ct_As) → Prop} {u : ct_Sc × (Nat → Int32) × (Nat → Int32) × ct_In × (Nat → Int32) × ct_Ma × (Nat → Int32) × ct_Pa × (Nat → Int32) × (Nat → Int32) × ct_As} {ops ag ws : Nat → Int32} {cnt lim : Int32} {K : Nat} (hK : K < 2 ^ 31) (hu : u.2.2.2.2.2.2.2.2.2.2.2.2.2.1 = nI K) (hl : u.2.2.2.2.2.2.2.2.2.2.2.2.2.2.1 = lim) (ho : ∀ i, vp_in (ops i) 14) (hn : cnt ≤ 60) : ∀ n j h t c x y, j + n = K → vp_in (h 0) 16 → vp_in (h 4) 31 → (∀ i, i < 8 → c i = h (5 + i)) → (∀ c', (∀ i, i < 8 → c' i = (spn ops ag ws cnt lim n h t).1 (5 + i)) → post (u.1, ops, ag, cnt, ws, mm (spn ops ag ws cnt lim n h t).1 (spn ops ag ws cnt lim n h t).2, c', (spn ops ag ws cnt lim n h t).1 4, (pp ops ag ws cnt lim n h t x y).1, (pp ops ag ws cnt lim n h t x y).2, u.2.2.2.2.2.2.2.2.2.2)) → wl_Sc_moveTrueState_2 post u (n + 1) (nI j) ops ag cnt ws (mm h t) c (h 4) x y := by
  intro n
  induction n with
  | zero =>
    intro j h t c x y hj hp h4 hc Q
    refine ⟨fun _ => Q c hc, fun hn => absurd ?_ hn⟩
    rw [hu]
    exact nI_le (by omega) (by omega)
  | succ n ih =>
    intro j h t c x y hj hp h4 hc Q
    refine ⟨fun hn => absurd hn ?_, fun _ => ?_⟩
    · rw [hu]
      exact nI_ge (by omega) (by omega)
    rw [hl]
    refine st_Ma ho hn hp hc (fun c' hc' => ⟨fun e4 => ?_, fun e4 => ?_⟩)
    · have e4 : (sp ops ag ws cnt lim h t).1 4 = h 4 := e4
      have e := ih (j + 1) _ _ c' x y (by omega) (sp_pc ho hp) (sp_31 ho h4) hc' (fun c'' hc'' => by
        have q := Q c'' hc''
        simp only [pp, e4, if_true] at q
        exact q)
      rw [← nI_1, e4] at e
      exact e
    · have e4 : ¬ (sp ops ag ws cnt lim h t).1 4 = h 4 := e4
      rcases sp_4 (ag := ag) (ws := ws) (cnt := cnt) (lim := lim) (h := h) (t := t) ho with e | ⟨e, e2, e3, e5⟩
      · exact absurd e e4
      obtain ⟨i, hi, ei⟩ := vp_in_of h4 (by decide)
      have hi30 : i ≠ 30 := by
        intro q
        subst q
        exact e ei
      have hv : vp_in (h 4) 30 := by
        rw [ei]; exact vp_in_nI (by omega) (by decide)
      have h30 : ¬ 30 ≤ h 4 := by
        rw [ei]; exact nI_ge (a := i) (b := 30) (by omega) (by decide)
      have w := ih (j + 1) _ _ c' (upd x (h 4).toNatClampNeg (h 2 &&& 3)) (upd y (h 4).toNatClampNeg (h 1)) (by omega) (sp_pc ho hp) (sp_31 ho h4) hc' (fun c'' hc'' => by
        have q := Q c'' hc''
        simp only [pp, e4, if_false] at q
        exact q)
      rw [← nI_1, e2] at w
      refine ⟨fun h => absurd h h30, fun _ => ⟨hv, hv, fun f ef => ?_⟩⟩
      subst ef
      show wl_Sc_moveTrueState_2 post u (n + 1) (nI j + 1) ops ag cnt ws (mm (sp ops ag ws cnt lim h t).1 (sp ops ag ws cnt lim h t).2) c' (h 4 + 1) (upd x (h 4).toNatClampNeg ((sp ops ag ws cnt lim h t).1 2 &&& 3)) (upd y (h 4).toNatClampNeg ((sp ops ag ws cnt lim h t).1 1))
      rw [e3, e5]
      exact w
abbrev mo_t (o : ct_Mo) (t : Int64) : ct_Mo := (o.1, o.2.1, o.2.2.1, o.2.2.2.1, o.2.2.2.2.1, t, t, o.2.2.2.2.2.2.2.1, o.2.2.2.2.2.2.2.2.1, o.2.2.2.2.2.2.2.2.2.1, o.2.2.2.2.2.2.2.2.2.2.1, o.2.2.2.2.2.2.2.2.2.2.2.1, o.2.2.2.2.2.2.2.2.2.2.2.2.1, o.2.2.2.2.2.2.2.2.2.2.2.2.2.1, o.2.2.2.2.2.2.2.2.2.2.2.2.2.2)
theorem st_130 {post : (ct_Mo × (Nat → Int32) × (Nat → Int32) × (Nat → Int32) × (Nat → Int32) × (Nat → Int32) × (Nat → Int32) × (Nat → Int32) × (Nat → Int32) × (Nat → Int32)) → Prop} {u : ct_Mo × (Nat → Int32) × (Nat → Int32) × (Nat → Int32) × (Nat → Int32) × (Nat → Int32) × (Nat → Int32) × (Nat → Int32) × (Nat → Int32) × (Nat → Int32)} {u4 : ct_Mo × (Nat → Int32)} {f7 : Int32} {x22 x23 x24 x25 x26 : Nat → Int32} {x27 : ct_Mo} {x28 r : Nat → Int32} (Q : wp_Mo_noAssertion (fun u41 => post (u41, x22, x23, upd u.2.2.2.1 u4.1.2.2.2.2.2.2.2.2.2.1.toNatClampNeg f7, x24, tk x28 r 13, x28, x25, x26, u4.2)) (mo_t x27 x27.2.2.2.2.2.2.1)) : ∀ j k, j + k = 13 → wl_Mo_settle_130 post u u4 f7 x22 x23 x24 x25 x26 x27 x28 (j + 1) (nI k) (tk x28 r k) := by
  intro j
  induction j with
  | zero =>
    intro k hk
    have hk : k = 13 := by omega
    subst hk
    exact ⟨fun _ => Q, fun hn => absurd ((nI_13le (by decide)).mpr (by decide)) hn⟩
  | succ j ih =>
    intro k hk
    have ih := ih (k + 1) (by omega)
    refine ⟨fun hn => absurd ((nI_13le (by omega)).mp hn) (by omega), fun _ => ⟨vp_in_nI (by omega) (by decide), fun f e => ⟨vp_in_nI (by omega) (by decide), ?_⟩⟩⟩
    rw [nI_clamp (by omega)] at e ⊢
    rw [nI_1, e]
    exact ih
theorem st_57 {post : (ct_Mo × (Nat → Int32) × (Nat → Int32) × (Nat → Int32) × (Nat → Int32) × (Nat → Int32) × (Nat → Int32) × (Nat → Int32) × (Nat → Int32) × (Nat → Int32)) → Prop} {u : ct_Mo × (Nat → Int32) × (Nat → Int32) × (Nat → Int32) × (Nat → Int32) × (Nat → Int32) × (Nat → Int32) × (Nat → Int32) × (Nat → Int32) × (Nat → Int32)} {u4 : ct_Mo × (Nat → Int32)} {f7 : Int32} {u10 : ct_Mo × (Nat → Int32) × (Nat → Int32)} {ops ag ws : Nat → Int32} {K : Nat} (hK : K < 2 ^ 31) (ho : ∀ i, vp_in (ops i) 14) : ∀ n j h (o : ct_Mo) x y, j + n = K → o.2.2.2.2.2.2.2.2.2.2.1 = nI K → o.2.2.2.1 ≤ 60 → vp_in (h 0) 16 → vp_in (h 4) 31 → wp_Mo_noAssertion (fun u41 => post (u41, ops, ag, upd u.2.2.2.1 u4.1.2.2.2.2.2.2.2.2.2.1.toNatClampNeg f7, ws, tk (spn ops ag ws o.2.2.2.1 o.2.2.2.2.2.2.2.2.2.2.2.1 n h o.2.2.2.2.2.2.1).1 u10.2.1 13, (spn ops ag ws o.2.2.2.1 o.2.2.2.2.2.2.2.2.2.2.2.1 n h o.2.2.2.2.2.2.1).1, (pp ops ag ws o.2.2.2.1 o.2.2.2.2.2.2.2.2.2.2.2.1 n h o.2.2.2.2.2.2.1 x y).1, (pp ops ag ws o.2.2.2.1 o.2.2.2.2.2.2.2.2.2.2.2.1 n h o.2.2.2.2.2.2.1 x y).2, u4.2)) (mo_t o (spn ops ag ws o.2.2.2.1 o.2.2.2.2.2.2.2.2.2.2.2.1 n h o.2.2.2.2.2.2.1).2) → wl_Mo_settle_57 post u u4 f7 u10 (n + 1) (nI j) ops ag ws x y o h := by
  intro n
  induction n with
  | zero =>
    intro j h o x y hj hs hn hp h4 Q
    refine ⟨fun _ => ⟨14, st_130 Q 13 0 rfl⟩, fun hn => absurd ?_ hn⟩
    rw [hs]
    exact nI_le (by omega) (by omega)
  | succ n ih =>
    intro j h o x y hj hs hn hp h4 Q
    refine ⟨fun hn => absurd hn ?_, fun _ y45 e45 y46 e46 y47 e47 => ?_⟩
    · rw [hs]
      exact nI_ge (by omega) (by omega)
    subst e45; subst e46; subst e47
    refine st_Mo ho hn hp ⟨fun le => ?_, fun le => ?_⟩
    · have le : (sp ops ag ws o.2.2.2.1 o.2.2.2.2.2.2.2.2.2.2.2.1 h o.2.2.2.2.2.2.1).1 4 ≤ h 4 := le
      rcases sp_4 (ag := ag) (ws := ws) (cnt := o.2.2.2.1) (lim := o.2.2.2.2.2.2.2.2.2.2.2.1) (h := h) (t := o.2.2.2.2.2.2.1) ho with e | ⟨e, e2, e3, e5⟩
      · have w := ih (j + 1) (sp ops ag ws o.2.2.2.1 o.2.2.2.2.2.2.2.2.2.2.2.1 h o.2.2.2.2.2.2.1).1 (mo_h o (sp ops ag ws o.2.2.2.1 o.2.2.2.2.2.2.2.2.2.2.2.1 h o.2.2.2.2.2.2.1).2) x y (by omega) hs hn (sp_pc ho hp) (sp_31 ho h4) (by
          simp only [pp, e, if_true] at Q
          exact Q)
        rw [← nI_1] at w
        exact w
      · exfalso
        obtain ⟨i, hi, ei⟩ := vp_in_of h4 (by decide)
        rw [e2, ei, nI_1] at le
        exact nI_ge (by omega) (by omega) le
    · have le : ¬ (sp ops ag ws o.2.2.2.1 o.2.2.2.2.2.2.2.2.2.2.2.1 h o.2.2.2.2.2.2.1).1 4 ≤ h 4 := le
      have e4 : ¬ (sp ops ag ws o.2.2.2.1 o.2.2.2.2.2.2.2.2.2.2.2.1 h o.2.2.2.2.2.2.1).1 4 = h 4 := by
        intro q
        rw [q, i32_le] at le
        exact le (Int.le_refl _)
      rcases sp_4 (ag := ag) (ws := ws) (cnt := o.2.2.2.1) (lim := o.2.2.2.2.2.2.2.2.2.2.2.1) (h := h) (t := o.2.2.2.2.2.2.1) ho with e | ⟨e, e2, e3, e5⟩
      · exact absurd e e4
      obtain ⟨i, hi, ei⟩ := vp_in_of h4 (by decide)
      have hi30 : i ≠ 30 := by
        intro q
        subst q
        exact e ei
      have hv : vp_in (h 4) 30 := by
        rw [ei]; exact vp_in_nI (by omega) (by decide)
      have w := ih (j + 1) (sp ops ag ws o.2.2.2.1 o.2.2.2.2.2.2.2.2.2.2.2.1 h o.2.2.2.2.2.2.1).1 (mo_h o (sp ops ag ws o.2.2.2.1 o.2.2.2.2.2.2.2.2.2.2.2.1 h o.2.2.2.2.2.2.1).2) (upd x (h 4).toNatClampNeg (h 2 &&& 3)) (upd y (h 4).toNatClampNeg (h 1)) (by omega) hs hn (sp_pc ho hp) (sp_31 ho h4) (by
        simp only [pp, e4, if_false] at Q
        exact Q)
      rw [← nI_1] at w
      exact ⟨hv, hv, w⟩
/-! running games; the assertion that stands -/
def rcn (ru : Nat → Int32) : Nat → Int32
  | 0 => 0
  | n + 1 => if ru n = 0 then rcn ru n else rcn ru n + 1
theorem g_cs {j : Nat} (h : j < 3) : j = 0 ∨ j = 1 ∨ j = 2 := by omega
theorem st_cr_l {post : Int32 → (ct_Sc × ct_Ga × ct_Ga × ct_Ga) → Prop} {o : ct_Sc} {g0 g1 g2 : ct_Ga} {ru : Nat → Int32} {G : Nat} (hG : o.1 = nI G) (G3 : G ≤ 3) (r0 : g0.2.2.2.2.2.2.2.2 = ru 0) (r1 : g1.2.2.2.2.2.2.2.2 = ru 1) (r2 : g2.2.2.2.2.2.2.2.2 = ru 2) (Q : post (rcn ru G) (o, g0, g1, g2)) : ∀ n j, j + n = G → wl_Sc_countRunning_4 post (o, g0, g1, g2) (n + 1) (nI j) (rcn ru j) := by
  intro n
  induction n with
  | zero =>
    intro j hj
    have hj : j = G := by omega
    subst hj
    refine ⟨fun _ => Q, fun hn => absurd ?_ hn⟩
    show o.1 ≤ nI j
    rw [hG]
    exact nI_le (by omega) (by omega)
  | succ n ih =>
    intro j hj
    have w := ih (j + 1) (by omega)
    rw [← nI_1] at w
    refine ⟨fun hn => absurd hn ?_, fun _ => ⟨vp_in_nI (by omega) (by decide), ?_⟩⟩
    · show ¬ o.1 ≤ nI j
      rw [hG]
      exact nI_ge (by omega) (by omega)
    rw [nI_clamp (by omega)]
    rcases g_cs (show j < 3 by omega) with rfl | rfl | rfl
    · refine ⟨fun _ => ?_, fun h => absurd h (by omega), fun h => absurd h (by omega)⟩
      show (g0.2.2.2.2.2.2.2.2 = 0 → _) ∧ (¬ g0.2.2.2.2.2.2.2.2 = 0 → _)
      rw [r0]
      refine ⟨fun e => ?_, fun e => ?_⟩
      · rw [rcn, if_pos e] at w; exact w
      · rw [rcn, if_neg e] at w; exact w
    · refine ⟨fun h => absurd h (by omega), fun _ => ?_, fun h => absurd h (by omega)⟩
      show (g1.2.2.2.2.2.2.2.2 = 0 → _) ∧ (¬ g1.2.2.2.2.2.2.2.2 = 0 → _)
      rw [r1]
      refine ⟨fun e => ?_, fun e => ?_⟩
      · rw [rcn, if_pos e] at w; exact w
      · rw [rcn, if_neg e] at w; exact w
    · refine ⟨fun h => absurd h (by omega), fun h => absurd h (by omega), fun _ => ?_⟩
      show (g2.2.2.2.2.2.2.2.2 = 0 → _) ∧ (¬ g2.2.2.2.2.2.2.2.2 = 0 → _)
      rw [r2]
      refine ⟨fun e => ?_, fun e => ?_⟩
      · rw [rcn, if_pos e] at w; exact w
      · rw [rcn, if_neg e] at w; exact w
theorem st_cr {post : Int32 → (ct_Sc × ct_Ga × ct_Ga × ct_Ga) → Prop} {o : ct_Sc} {g0 g1 g2 : ct_Ga} {ru : Nat → Int32} {G : Nat} (hG : o.1 = nI G) (G3 : G ≤ 3) (r0 : g0.2.2.2.2.2.2.2.2 = ru 0) (r1 : g1.2.2.2.2.2.2.2.2 = ru 1) (r2 : g2.2.2.2.2.2.2.2.2 = ru 2) (Q : post (rcn ru G) (o, g0, g1, g2)) : wp_Sc_countRunning post (o, g0, g1, g2) := ⟨G + 1, st_cr_l hG G3 r0 r1 r2 Q G 0 (by omega)⟩
theorem st_mcr {post : Int32 → (ct_Mo × (Nat → Int32)) → Prop} {o : ct_Mo} {ru : Nat → Int32} {G : Nat} (hG : o.2.2.2.2.2.2.2.2.2.2.2.2.2.2 = nI G) (G3 : G ≤ 3) (Q : post (rcn ru G) (o, ru)) : wp_Mo_runningGames post (o, ru) := by
  have L : ∀ n j, j + n = G → wl_Mo_runningGames_4 post (o, ru) (n + 1) (nI j) (rcn ru j) := by
    intro n
    induction n with
    | zero =>
      intro j hj
      have hj : j = G := by omega
      subst hj
      refine ⟨fun _ => Q, fun hn => absurd ?_ hn⟩
      show o.2.2.2.2.2.2.2.2.2.2.2.2.2.2 ≤ nI j
      rw [hG]
      exact nI_le (by omega) (by omega)
    | succ n ih =>
      intro j hj
      have w := ih (j + 1) (by omega)
      rw [← nI_1] at w
      refine ⟨fun hn => absurd hn ?_, fun _ => ⟨vp_in_nI (by omega) (by decide), ?_⟩⟩
      · show ¬ o.2.2.2.2.2.2.2.2.2.2.2.2.2.2 ≤ nI j
        rw [hG]
        exact nI_ge (by omega) (by omega)
      rw [nI_clamp (by omega)]
      refine ⟨fun e => ?_, fun e y ey => ?_⟩
      · have e : ru j = 0 := e
        rw [rcn, if_pos e] at w; exact w
      · have e : ¬ ru j = 0 := e
        subst ey
        rw [rcn, if_neg e] at w; exact w
  exact ⟨G + 1, L G 0 (by omega)⟩
theorem st_pay {post : (ct_Sc × (Nat → Int32)) → Prop} {o : ct_Sc} {b : Nat → Int32} {k v : Int32} (hk : vp_in k 4) (Q : post (o, upd b k.toNatClampNeg (b k.toNatClampNeg + v))) : wp_Sc_pay post (o, b) k v := by
  obtain ⟨j, hj, e⟩ := vp_in_of hk (by decide)
  have h0 : ¬ k < 0 := by
    rw [e]; exact nI_pos (by omega)
  have h4 : ¬ 4 ≤ k := by
    rw [e]; exact nI_ge (a := j) (b := 4) (by omega) (by decide)
  refine ⟨fun h => absurd h h0, fun _ => ⟨fun h => absurd h h4, fun _ => ⟨fun h => absurd h (by decide), fun _ => ⟨hk, fun f ef => ⟨hk, ?_⟩⟩⟩⟩⟩
  subst ef
  exact Q
theorem st_stand {post : (ct_Sc × (Nat → Int32) × (Nat → Int32) × (Nat → Int32) × ct_In × (Nat → Int32) × ct_Ma × (Nat → Int32) × ct_Pa × (Nat → Int32) × (Nat → Int32) × ct_As × ct_Ga × ct_Ga × ct_Ga) → Prop} {gc pot blk cnt op str asr stp wds at' : Int32} {base trc clm : Int64} {b ops ag ws rl c pto pam : Nat → Int32} {g0 g1 g2 : ct_Ga} (hd ru : Nat → Int32) (G K : Nat) (hG : gc = nI G) (G3 : G ≤ 3) (r0 : g0.2.2.2.2.2.2.2.2 = ru 0) (r1 : g1.2.2.2.2.2.2.2.2 = ru 1) (r2 : g2.2.2.2.2.2.2.2.2 = ru 2) (ho : ∀ i, vp_in (ops i) 14) (hn : cnt ≤ 60) (hp : vp_in (rl 0) 16) (h4 : vp_in (rl 4) 31) (hc : ∀ i, i < 8 → c i = rl (5 + i)) (hop : ¬ op = 0 → vp_in asr 4 ∧ stp = nI K ∧ K ≤ 64)
    (N : (op = 0 ∨ blk < at' + 12 ∨ ¬ rcn ru G ≤ 0) → post ((gc, pot, blk, base), b, ops, ag, cnt, ws, mm rl trc, c, rl 4, pto, pam, (op, str, asr, stp, wds, at', clm), g0, g1, g2))
    (Y : ¬ op = 0 → ¬ blk < at' + 12 → rcn ru G ≤ 0 → ∀ c', (∀ i, i < 8 → c' i = (spn ops ag ws cnt wds K (hk rl hd) trc).1 (5 + i)) → post ((0, pot, blk, clm), upd b asr.toNatClampNeg (b asr.toNatClampNeg + 100), ops, ag, cnt, ws, mm (spn ops ag ws cnt wds K (hk rl hd) trc).1 (spn ops ag ws cnt wds K (hk rl hd) trc).2, c', (spn ops ag ws cnt wds K (hk rl hd) trc).1 4, (pp ops ag ws cnt wds K (hk rl hd) trc pto pam).1, (pp ops ag ws cnt wds K (hk rl hd) trc pto pam).2, (0, str, asr, stp, wds, at', clm), g0, g1, g2)) :
    wp_Sc_standIfDue post ((gc, pot, blk, base), b, ops, ag, cnt, ws, mm rl trc, c, rl 4, pto, pam, (op, str, asr, stp, wds, at', clm), g0, g1, g2) := by
  refine ⟨fun e => N (.inl e), fun e => ⟨fun e2 => N (.inr (.inl e2)), fun e2 => st_cr (ru := ru) hG G3 r0 r1 r2 ⟨fun e3 => ?_, fun e3 => N (.inr (.inr e3))⟩⟩⟩
  obtain ⟨ha, hs, hK⟩ := hop e
  refine st_pay ha ⟨K + 1, ?_⟩
  have w := fun Q => st_mv (post := fun u9 => wp_Sc_closeAssertion (fun u11 => post (u11.1, upd b asr.toNatClampNeg (b asr.toNatClampNeg + 100), u9.2.1, u9.2.2.1, u9.2.2.2.1, u9.2.2.2.2.1, u9.2.2.2.2.2.1, u9.2.2.2.2.2.2.1, u9.2.2.2.2.2.2.2.1, u9.2.2.2.2.2.2.2.2.1, u9.2.2.2.2.2.2.2.2.2.1, u11.2, g0, g1, g2)) (u9.1, u9.2.2.2.2.2.2.2.2.2.2)) (u := ((gc, pot, blk, clm), ops, ag, cnt, ws, mm rl trc, c, rl 4, pto, pam, (op, str, asr, stp, wds, at', clm))) (ops := ops) (ag := ag) (ws := ws) (cnt := cnt) (lim := wds) (K := K) (by omega) hs rfl ho hn K 0 (hk rl hd) trc c pto pam (by omega) (by rw [hk_i (by omega)]; exact hp) (by rw [hk_i (by omega)]; exact h4) (fun i hi => by rw [hk_i (by omega)]; exact hc i hi) Q
  rw [hk_mm, hk_i (show 4 < 13 by omega)] at w
  exact w (fun c' hc' => Y e e2 e3 c' hc')
theorem st_settle {post : (ct_Mo × (Nat → Int32) × (Nat → Int32) × (Nat → Int32) × (Nat → Int32) × (Nat → Int32) × (Nat → Int32) × (Nat → Int32) × (Nat → Int32) × (Nat → Int32)) → Prop} {thr str pot cnt blk op asr stp wds at' gc : Int32} {trc htr base clm : Int64} {b ops ag ws rl hd pto pam ru : Nat → Int32} (G K : Nat) (hG : gc = nI G) (G3 : G ≤ 3) (ho : ∀ i, vp_in (ops i) 14) (hn : cnt ≤ 60) (hp : vp_in (rl 0) 16) (h4 : vp_in (rl 4) 31) (hop : ¬ op = 0 → vp_in asr 4 ∧ stp = nI K ∧ K ≤ 64)
    (N : (op = 0 ∨ blk < at' + 12 ∨ ¬ rcn ru G ≤ 0) → post ((thr, str, pot, cnt, blk, trc, htr, base, op, asr, stp, wds, at', clm, gc), ops, ag, b, ws, rl, hd, pto, pam, ru))
    (Y : ¬ op = 0 → ¬ blk < at' + 12 → rcn ru G ≤ 0 → post ((thr, str, pot, cnt, blk, (spn ops ag ws cnt wds K (hk rl hd) trc).2, (spn ops ag ws cnt wds K (hk rl hd) trc).2, clm, 0, asr, stp, wds, at', clm, 0), ops, ag, upd b asr.toNatClampNeg (b asr.toNatClampNeg + 100), ws, hk (spn ops ag ws cnt wds K (hk rl hd) trc).1 rl, (spn ops ag ws cnt wds K (hk rl hd) trc).1, (pp ops ag ws cnt wds K (hk rl hd) trc pto pam).1, (pp ops ag ws cnt wds K (hk rl hd) trc pto pam).2, ru)) :
    wp_Mo_settle post ((thr, str, pot, cnt, blk, trc, htr, base, op, asr, stp, wds, at', clm, gc), ops, ag, b, ws, rl, hd, pto, pam, ru) := by
  refine ⟨fun e => N (.inl e), fun e => ⟨fun e2 => N (.inr (.inl e2)), fun e2 => st_mcr (ru := ru) hG G3 ⟨fun e3 => ?_, fun e3 => N (.inr (.inr e3))⟩⟩⟩
  obtain ⟨ha, hs, hK⟩ := hop e
  refine ⟨ha, fun f7 e7 => ⟨ha, pu_Mo_take ⟨K + 1, ?_⟩⟩⟩
  subst e7
  exact st_57 (K := K) (by omega) ho K 0 (hk rl hd) (thr, str, pot, cnt, blk, trc, trc, clm, op, asr, stp, wds, at', clm, gc) pto pam (by omega) hs hn (by rw [hk_i (by omega)]; exact hp) (by rw [hk_i (by omega)]; exact h4) (Y e e2 e3)
/-! a challenger wins: the assertion falls -/
def fb (ch ru : Nat → Int32) (b : Nat → Int32) : Nat → Nat → Int32
  | 0 => b
  | n + 1 => if ru n = 0 then fb ch ru b n else upd (fb ch ru b n) (ch n).toNatClampNeg (fb ch ru b n (ch n).toNatClampNeg + 100)
theorem up_id (f : Nat → Int32) (k : Nat) : upd f k (f k + 0) = f := by
  funext j
  by_cases q : j = k
  · subst q; simp [upd]
  · simp [upd, q]
theorem st_fall {post : (ct_Mo × (Nat → Int32) × (Nat → Int32) × (Nat → Int32)) → Prop} {o : ct_Mo} {b ch ru : Nat → Int32} {G i : Nat} (hG : o.2.2.2.2.2.2.2.2.2.2.2.2.2.2 = nI G) (G3 : G ≤ 3) (hi : i < G) (hch : ∀ j, j < G → vp_in (ch j) 4) (Q : wp_Mo_noAssertion (fun u24 => post (u24, fb ch (upd ru i 0) (upd b (ch i).toNatClampNeg (b (ch i).toNatClampNeg + 200)) G, ch, upd ru i 0)) o) : wp_Mo_fall post (o, b, ch, ru) (nI i) := by
  have hv : vp_in (nI i) 3 := vp_in_nI (by omega) (by decide)
  refine ⟨hv, hv, fun y3 e3 => ?_⟩
  rw [nI_clamp (by omega)] at e3
  have e3 : y3 = ch i := e3
  subst e3
  refine ⟨hch i hi, fun f ef => ⟨hch i hi, G + 1, ?_⟩⟩
  subst ef
  have L : ∀ n j, j + n = G → wl_Mo_fall_26 post (o, b, ch, ru) (nI i) (n + 1) (nI j) (fb ch (upd ru i 0) (upd b (ch i).toNatClampNeg (b (ch i).toNatClampNeg + 200)) j) := by
    intro n
    induction n with
    | zero =>
      intro j hj
      have hj : j = G := by omega
      subst hj
      refine ⟨fun _ => ?_, fun hn => absurd ?_ hn⟩
      · show wp_Mo_noAssertion (fun u24 => post (u24, _, ch, upd ru (nI i).toNatClampNeg 0)) o
        rw [nI_clamp (by omega)]
        exact Q
      · show o.2.2.2.2.2.2.2.2.2.2.2.2.2.2 ≤ nI j
        rw [hG]
        exact nI_le (by omega) (by omega)
    | succ n ih =>
      intro j hj
      have w := ih (j + 1) (by omega)
      rw [← nI_1] at w
      refine ⟨fun hn => absurd hn ?_, fun _ => ⟨vp_in_nI (by omega) (by decide), fun y ey => ?_⟩⟩
      · show ¬ o.2.2.2.2.2.2.2.2.2.2.2.2.2.2 ≤ nI j
        rw [hG]
        exact nI_ge (by omega) (by omega)
      rw [nI_clamp (by omega)] at ey
      have ey : y = ch j := ey
      subst ey
      refine ⟨hch j (by omega), vp_in_nI (by omega) (by decide), ?_⟩
      show (upd ru (nI i).toNatClampNeg 0 (nI j).toNatClampNeg = 0 → _) ∧ (¬ upd ru (nI i).toNatClampNeg 0 (nI j).toNatClampNeg = 0 → _)
      rw [nI_clamp (show i < 2 ^ 31 by omega), nI_clamp (show j < 2 ^ 31 by omega)]
      refine ⟨fun e f ef => ⟨hch j (by omega), ?_⟩, fun e f ef => ⟨hch j (by omega), ?_⟩⟩
      · subst ef
        rw [fb, if_pos e] at w
        rw [up_id]
        exact w
      · subst ef
        rw [fb, if_neg e] at w
        exact w
  exact L G 0 (by omega)
theorem up_ne {f : Nat → Int32} {k j : Nat} {x : Int32} (h : j ≠ k) : upd f k x j = f j := pk_un h
theorem st_cw0 {post : (ct_Sc × (Nat → Int32) × ct_As × ct_Ga × ct_Ga × ct_Ga) → Prop} {o : ct_Sc} {a : ct_As} {g0 g1 g2 : ct_Ga} {b ch ru : Nat → Int32} {G : Nat} (hG : o.1 = nI G) (G3 : G ≤ 3) (hi : 0 < G) (hch : ∀ j, j < G → vp_in (ch j) 4) (r0 : g0.2.2.2.2.2.2.2.2 = ru 0) (r1 : g1.2.2.2.2.2.2.2.2 = ru 1) (r2 : g2.2.2.2.2.2.2.2.2 = ru 2) (c0 : g0.1 = ch 0) (c1 : g1.1 = ch 1) (c2 : g2.1 = ch 2) (Q : wp_Sc_closeAssertion (fun u41 => post (u41.1, fb ch (upd ru 0 0) (upd b (ch 0).toNatClampNeg (b (ch 0).toNatClampNeg + 200)) G, u41.2, (g0.1, g0.2.1, g0.2.2.1, g0.2.2.2.1, g0.2.2.2.2.1, g0.2.2.2.2.2.1, g0.2.2.2.2.2.2.1, g0.2.2.2.2.2.2.2.1, 0), g1, g2)) (o, a)) : wp_Sc_challengerWins_0 post (o, b, a, g0, g1, g2) := by
  show wp_Sc_pay _ (o, b) g0.1 200
  rw [c0]
  refine st_pay (hch 0 hi) ⟨G + 1, ?_⟩
  have L : ∀ n j, j + n = G → wl_Sc_challengerWins_0_18 post (o, b, a, g0, g1, g2) (n + 1) (nI j) o (fb ch (upd ru 0 0) (upd b (ch 0).toNatClampNeg (b (ch 0).toNatClampNeg + 200)) j) := by
    intro n
    induction n with
    | zero =>
      intro j hj
      have hj : j = G := by omega
      subst hj
      refine ⟨fun _ => Q, fun hn => absurd ?_ hn⟩
      rw [hG]
      exact nI_le (by omega) (by omega)
    | succ n ih =>
      intro j hj
      have w := ih (j + 1) (by omega)
      rw [← nI_1] at w
      refine ⟨fun hn => absurd hn ?_, fun _ => ⟨vp_in_nI (by omega) (by decide), ?_⟩⟩
      · rw [hG]
        exact nI_ge (by omega) (by omega)
      rw [nI_clamp (by omega)]
      rcases g_cs (show j < 3 by omega) with rfl | rfl | rfl
      · refine ⟨fun _ => ?_, fun h => absurd h (by omega), fun h => absurd h (by omega)⟩
        rw [fb, if_pos (show upd ru 0 0 0 = 0 from pk_us)] at w
        exact w
      · refine ⟨fun h => absurd h (by omega), fun _ => ?_, fun h => absurd h (by omega)⟩
        show (g1.2.2.2.2.2.2.2.2 = 0 → _) ∧ (¬ g1.2.2.2.2.2.2.2.2 = 0 → _)
        rw [r1]
        refine ⟨fun e => ?_, fun e => ⟨vp_in_nI (by omega) (by decide), fun h => absurd h (by omega), fun _ => ?_, fun h => absurd h (by omega)⟩⟩
        · rw [fb, if_pos (show upd ru 0 0 1 = 0 by rw [up_ne (by omega)]; exact e)] at w
          exact w
        · show wp_Sc_pay _ (o, _) g1.1 100
          rw [c1]
          refine st_pay (hch 1 (by omega)) ?_
          rw [fb, if_neg (show ¬ upd ru 0 0 1 = 0 by rw [up_ne (by omega)]; exact e)] at w
          exact w
      · refine ⟨fun h => absurd h (by omega), fun h => absurd h (by omega), fun _ => ?_⟩
        show (g2.2.2.2.2.2.2.2.2 = 0 → _) ∧ (¬ g2.2.2.2.2.2.2.2.2 = 0 → _)
        rw [r2]
        refine ⟨fun e => ?_, fun e => ⟨vp_in_nI (by omega) (by decide), fun h => absurd h (by omega), fun h => absurd h (by omega), fun _ => ?_⟩⟩
        · rw [fb, if_pos (show upd ru 0 0 2 = 0 by rw [up_ne (by omega)]; exact e)] at w
          exact w
        · show wp_Sc_pay _ (o, _) g2.1 100
          rw [c2]
          refine st_pay (hch 2 (by omega)) ?_
          rw [fb, if_neg (show ¬ upd ru 0 0 2 = 0 by rw [up_ne (by omega)]; exact e)] at w
          exact w
  exact L G 0 (by omega)
theorem st_cw1 {post : (ct_Sc × (Nat → Int32) × ct_As × ct_Ga × ct_Ga × ct_Ga) → Prop} {o : ct_Sc} {a : ct_As} {g0 g1 g2 : ct_Ga} {b ch ru : Nat → Int32} {G : Nat} (hG : o.1 = nI G) (G3 : G ≤ 3) (hi : 1 < G) (hch : ∀ j, j < G → vp_in (ch j) 4) (r0 : g0.2.2.2.2.2.2.2.2 = ru 0) (r1 : g1.2.2.2.2.2.2.2.2 = ru 1) (r2 : g2.2.2.2.2.2.2.2.2 = ru 2) (c0 : g0.1 = ch 0) (c1 : g1.1 = ch 1) (c2 : g2.1 = ch 2) (Q : wp_Sc_closeAssertion (fun u41 => post (u41.1, fb ch (upd ru 1 0) (upd b (ch 1).toNatClampNeg (b (ch 1).toNatClampNeg + 200)) G, u41.2, g0, (g1.1, g1.2.1, g1.2.2.1, g1.2.2.2.1, g1.2.2.2.2.1, g1.2.2.2.2.2.1, g1.2.2.2.2.2.2.1, g1.2.2.2.2.2.2.2.1, 0), g2)) (o, a)) : wp_Sc_challengerWins_1 post (o, b, a, g0, g1, g2) := by
  show wp_Sc_pay _ (o, b) g1.1 200
  rw [c1]
  refine st_pay (hch 1 hi) ⟨G + 1, ?_⟩
  have L : ∀ n j, j + n = G → wl_Sc_challengerWins_1_18 post (o, b, a, g0, g1, g2) (n + 1) (nI j) o (fb ch (upd ru 1 0) (upd b (ch 1).toNatClampNeg (b (ch 1).toNatClampNeg + 200)) j) := by
    intro n
    induction n with
    | zero =>
      intro j hj
      have hj : j = G := by omega
      subst hj
      refine ⟨fun _ => Q, fun hn => absurd ?_ hn⟩
      rw [hG]
      exact nI_le (by omega) (by omega)
    | succ n ih =>
      intro j hj
      have w := ih (j + 1) (by omega)
      rw [← nI_1] at w
      refine ⟨fun hn => absurd hn ?_, fun _ => ⟨vp_in_nI (by omega) (by decide), ?_⟩⟩
      · rw [hG]
        exact nI_ge (by omega) (by omega)
      rw [nI_clamp (by omega)]
      rcases g_cs (show j < 3 by omega) with rfl | rfl | rfl
      · refine ⟨fun _ => ?_, fun h => absurd h (by omega), fun h => absurd h (by omega)⟩
        show (g0.2.2.2.2.2.2.2.2 = 0 → _) ∧ (¬ g0.2.2.2.2.2.2.2.2 = 0 → _)
        rw [r0]
        refine ⟨fun e => ?_, fun e => ⟨vp_in_nI (by omega) (by decide), fun _ => ?_, fun h => absurd h (by omega), fun h => absurd h (by omega)⟩⟩
        · rw [fb, if_pos (show upd ru 1 0 0 = 0 by rw [up_ne (by omega)]; exact e)] at w
          exact w
        · show wp_Sc_pay _ (o, _) g0.1 100
          rw [c0]
          refine st_pay (hch 0 (by omega)) ?_
          rw [fb, if_neg (show ¬ upd ru 1 0 0 = 0 by rw [up_ne (by omega)]; exact e)] at w
          exact w
      · refine ⟨fun h => absurd h (by omega), fun _ => ?_, fun h => absurd h (by omega)⟩
        rw [fb, if_pos (show upd ru 1 0 1 = 0 from pk_us)] at w
        exact w
      · refine ⟨fun h => absurd h (by omega), fun h => absurd h (by omega), fun _ => ?_⟩
        show (g2.2.2.2.2.2.2.2.2 = 0 → _) ∧ (¬ g2.2.2.2.2.2.2.2.2 = 0 → _)
        rw [r2]
        refine ⟨fun e => ?_, fun e => ⟨vp_in_nI (by omega) (by decide), fun h => absurd h (by omega), fun h => absurd h (by omega), fun _ => ?_⟩⟩
        · rw [fb, if_pos (show upd ru 1 0 2 = 0 by rw [up_ne (by omega)]; exact e)] at w
          exact w
        · show wp_Sc_pay _ (o, _) g2.1 100
          rw [c2]
          refine st_pay (hch 2 (by omega)) ?_
          rw [fb, if_neg (show ¬ upd ru 1 0 2 = 0 by rw [up_ne (by omega)]; exact e)] at w
          exact w
  exact L G 0 (by omega)
theorem st_cw2 {post : (ct_Sc × (Nat → Int32) × ct_As × ct_Ga × ct_Ga × ct_Ga) → Prop} {o : ct_Sc} {a : ct_As} {g0 g1 g2 : ct_Ga} {b ch ru : Nat → Int32} {G : Nat} (hG : o.1 = nI G) (G3 : G ≤ 3) (hi : 2 < G) (hch : ∀ j, j < G → vp_in (ch j) 4) (r0 : g0.2.2.2.2.2.2.2.2 = ru 0) (r1 : g1.2.2.2.2.2.2.2.2 = ru 1) (r2 : g2.2.2.2.2.2.2.2.2 = ru 2) (c0 : g0.1 = ch 0) (c1 : g1.1 = ch 1) (c2 : g2.1 = ch 2) (Q : wp_Sc_closeAssertion (fun u41 => post (u41.1, fb ch (upd ru 2 0) (upd b (ch 2).toNatClampNeg (b (ch 2).toNatClampNeg + 200)) G, u41.2, g0, g1, (g2.1, g2.2.1, g2.2.2.1, g2.2.2.2.1, g2.2.2.2.2.1, g2.2.2.2.2.2.1, g2.2.2.2.2.2.2.1, g2.2.2.2.2.2.2.2.1, 0))) (o, a)) : wp_Sc_challengerWins_2 post (o, b, a, g0, g1, g2) := by
  show wp_Sc_pay _ (o, b) g2.1 200
  rw [c2]
  refine st_pay (hch 2 hi) ⟨G + 1, ?_⟩
  have L : ∀ n j, j + n = G → wl_Sc_challengerWins_2_18 post (o, b, a, g0, g1, g2) (n + 1) (nI j) o (fb ch (upd ru 2 0) (upd b (ch 2).toNatClampNeg (b (ch 2).toNatClampNeg + 200)) j) := by
    intro n
    induction n with
    | zero =>
      intro j hj
      have hj : j = G := by omega
      subst hj
      refine ⟨fun _ => Q, fun hn => absurd ?_ hn⟩
      rw [hG]
      exact nI_le (by omega) (by omega)
    | succ n ih =>
      intro j hj
      have w := ih (j + 1) (by omega)
      rw [← nI_1] at w
      refine ⟨fun hn => absurd hn ?_, fun _ => ⟨vp_in_nI (by omega) (by decide), ?_⟩⟩
      · rw [hG]
        exact nI_ge (by omega) (by omega)
      rw [nI_clamp (by omega)]
      rcases g_cs (show j < 3 by omega) with rfl | rfl | rfl
      · refine ⟨fun _ => ?_, fun h => absurd h (by omega), fun h => absurd h (by omega)⟩
        show (g0.2.2.2.2.2.2.2.2 = 0 → _) ∧ (¬ g0.2.2.2.2.2.2.2.2 = 0 → _)
        rw [r0]
        refine ⟨fun e => ?_, fun e => ⟨vp_in_nI (by omega) (by decide), fun _ => ?_, fun h => absurd h (by omega), fun h => absurd h (by omega)⟩⟩
        · rw [fb, if_pos (show upd ru 2 0 0 = 0 by rw [up_ne (by omega)]; exact e)] at w
          exact w
        · show wp_Sc_pay _ (o, _) g0.1 100
          rw [c0]
          refine st_pay (hch 0 (by omega)) ?_
          rw [fb, if_neg (show ¬ upd ru 2 0 0 = 0 by rw [up_ne (by omega)]; exact e)] at w
          exact w
      · refine ⟨fun h => absurd h (by omega), fun _ => ?_, fun h => absurd h (by omega)⟩
        show (g1.2.2.2.2.2.2.2.2 = 0 → _) ∧ (¬ g1.2.2.2.2.2.2.2.2 = 0 → _)
        rw [r1]
        refine ⟨fun e => ?_, fun e => ⟨vp_in_nI (by omega) (by decide), fun h => absurd h (by omega), fun _ => ?_, fun h => absurd h (by omega)⟩⟩
        · rw [fb, if_pos (show upd ru 2 0 1 = 0 by rw [up_ne (by omega)]; exact e)] at w
          exact w
        · show wp_Sc_pay _ (o, _) g1.1 100
          rw [c1]
          refine st_pay (hch 1 (by omega)) ?_
          rw [fb, if_neg (show ¬ upd ru 2 0 1 = 0 by rw [up_ne (by omega)]; exact e)] at w
          exact w
      · refine ⟨fun h => absurd h (by omega), fun h => absurd h (by omega), fun _ => ?_⟩
        rw [fb, if_pos (show upd ru 2 0 2 = 0 from pk_us)] at w
        exact w
  exact L G 0 (by omega)
/-! a block: late games end, the assertion may stand -/
abbrev gset (g : ct_Ga) (r : Int32) : ct_Ga := (g.1, g.2.1, g.2.2.1, g.2.2.2.1, g.2.2.2.2.1, g.2.2.2.2.2.1, g.2.2.2.2.2.2.1, g.2.2.2.2.2.2.2.1, r)
def dv (lo hi mf ru : Int32) : Int32 := if ru = 0 then 0 else if mf = 0 then (if hi - lo ≤ 1 then 3 else 1) else 2
theorem i_le_nlt {a b : Int32} : a ≤ b ↔ ¬ b < a := by
  rw [i32_le, i32_lt]
  omega
theorem st_duty {post : Int32 → ct_Ga → Prop} {g : ct_Ga} (hm : ¬ g.2.2.2.2.2.2.2.2 = 0 → ¬ g.2.2.2.2.2.2.1 = 0 → 1 < g.2.2.1 - g.2.1) (Q : post (dv g.2.1 g.2.2.1 g.2.2.2.2.2.2.1 g.2.2.2.2.2.2.2.2) g) : wp_Ga_duty post g := by
  refine ⟨fun e => ?_, fun e => ⟨fun e2 => ⟨fun e3 => ?_, fun e3 => ?_⟩, fun e2 => ?_⟩⟩
  · rw [dv, if_pos e] at Q; exact Q
  · rw [dv, if_neg e, if_pos e3, if_neg (fun q => (i_le_nlt.mp q) e2)] at Q; exact Q
  · rw [dv, if_neg e, if_neg e3] at Q; exact Q
  · by_cases e3 : g.2.2.2.2.2.2.1 = 0
    · rw [dv, if_neg e, if_pos e3, if_pos (i_le_nlt.mpr e2)] at Q; exact Q
    · exact absurd (hm e e3) e2
theorem st_due {post : Int32 → (ct_Mo × (Nat → Int32) × (Nat → Int32) × (Nat → Int32) × (Nat → Int32)) → Prop} {o : ct_Mo} {lo hi mf ru : Nat → Int32} {i : Nat} (h3 : i < 3) (Q : post (dv (lo i) (hi i) (mf i) (ru i)) (o, lo, hi, mf, ru)) : wp_Mo_due post (o, lo, hi, mf, ru) (nI i) := by
  have hv : vp_in (nI i) 3 := vp_in_nI h3 (by decide)
  refine ⟨hv, ?_⟩
  rw [nI_clamp (by omega)]
  refine ⟨fun e => ?_, fun e => ⟨hv, fun e2 => ⟨hv, hv, fun e3 => ?_, fun e3 => ?_⟩, fun e2 => ?_⟩⟩
  · have e : ru i = 0 := e
    rw [dv, if_pos e] at Q; exact Q
  · have e : ¬ ru i = 0 := e
    have e2 : mf i = 0 := e2
    have e3 : hi i - lo i ≤ 1 := e3
    rw [dv, if_neg e, if_pos e2, if_pos e3] at Q; exact Q
  · have e : ¬ ru i = 0 := e
    have e2 : mf i = 0 := e2
    have e3 : ¬ hi i - lo i ≤ 1 := e3
    rw [dv, if_neg e, if_pos e2, if_neg e3] at Q; exact Q
  · have e : ¬ ru i = 0 := e
    have e2 : ¬ mf i = 0 := e2
    rw [dv, if_neg e, if_neg e2] at Q; exact Q
theorem dv_2 {lo hi mf ru : Int32} (h : ¬ ru = 0) : dv lo hi mf ru = 2 ↔ ¬ mf = 0 := by
  unfold dv
  rw [if_neg h]
  by_cases q : mf = 0
  · rw [if_pos q]
    refine ⟨fun e => ?_, fun e => absurd q e⟩
    by_cases q2 : hi - lo ≤ 1
    · rw [if_pos q2] at e; exact absurd e (by decide)
    · rw [if_neg q2] at e; exact absurd e (by decide)
  · rw [if_neg q]; exact ⟨fun _ => q, fun _ => rfl⟩
def el (blk asr : Int32) (mf dl ch : Nat → Int32) (G : Nat) : Nat → Nat → (Nat → Int32) → (Nat → Int32) → Bool × (Nat → Int32) × (Nat → Int32)
  | 0, _, b, ru => (false, b, ru)
  | n + 1, j, b, ru => if ru j = 0 then el blk asr mf dl ch G n (j + 1) b ru else if blk ≤ dl j then el blk asr mf dl ch G n (j + 1) b ru else if mf j = 0 then (true, fb ch (upd ru j 0) (upd b (ch j).toNatClampNeg (b (ch j).toNatClampNeg + 200)) G, upd ru j 0) else el blk asr mf dl ch G n (j + 1) (upd b asr.toNatClampNeg (b asr.toNatClampNeg + 100)) (upd ru j 0)
theorem el_0 {blk asr : Int32} {mf dl ch : Nat → Int32} {G : Nat} : ∀ n j b ru, (∀ k, j ≤ k → k < j + n → ru k = 0) → el blk asr mf dl ch G n j b ru = (false, b, ru) := by
  intro n
  induction n with
  | zero => intro j b ru h; rfl
  | succ n ih =>
    intro j b ru h
    rw [el, if_pos (h j (by omega) (by omega))]
    exact ih (j + 1) b ru (fun k h1 h2 => h k (by omega) (by omega))
theorem rcn_n (ru : Nat → Int32) : ∀ n, ∃ m, m ≤ n ∧ rcn ru n = nI m ∧ (m = 0 → ∀ k, k < n → ru k = 0) := by
  intro n
  induction n with
  | zero => exact ⟨0, Nat.le_refl _, rfl, fun _ k hk => absurd hk (by omega)⟩
  | succ n ih =>
    obtain ⟨m, hm, e, h⟩ := ih
    by_cases q : ru n = 0
    · refine ⟨m, by omega, by rw [rcn, if_pos q]; exact e, fun h0 k hk => ?_⟩
      by_cases q2 : k = n
      · rw [q2]; exact q
      · exact h h0 k (by omega)
    · exact ⟨m + 1, by omega, by rw [rcn, if_neg q, e, nI_1], fun h0 => absurd h0 (by omega)⟩
theorem rcn_0 {ru : Nat → Int32} {n : Nat} (hn : n ≤ 3) (h : rcn ru n ≤ 0) : ∀ k, k < n → ru k = 0 := by
  obtain ⟨m, hm, e, h2⟩ := rcn_n ru n
  refine h2 ?_
  rcases (show m = 0 ∨ 0 < m by omega) with q | q
  · exact q
  · rw [e] at h
    exact absurd h (nI_nle q (by omega))
theorem st_el {post : (ct_Sc × (Nat → Int32) × ct_As × ct_Ga × ct_Ga × ct_Ga) → Prop} {gc pot blk op str asr stp wds at' : Int32} {base clm : Int64} {g0 g1 g2 : ct_Ga} {mf dl ch : Nat → Int32} {G : Nat} (hG : gc = nI G) (G3 : G ≤ 3) (ha : 0 < G → vp_in asr 4) (hch : ∀ j, j < G → vp_in (ch j) 4) (c0 : g0.1 = ch 0) (c1 : g1.1 = ch 1) (c2 : g2.1 = ch 2) (m0 : g0.2.2.2.2.2.2.1 = mf 0) (m1 : g1.2.2.2.2.2.2.1 = mf 1) (m2 : g2.2.2.2.2.2.2.1 = mf 2) : ∀ n j b ru, j + n = G → (∀ k, k < G → ¬ ru k = 0 → (k = 0 → g0.2.2.2.2.2.2.2.1 = dl 0 ∧ (¬ mf 0 = 0 → 1 < g0.2.2.1 - g0.2.1)) ∧ (k = 1 → g1.2.2.2.2.2.2.2.1 = dl 1 ∧ (¬ mf 1 = 0 → 1 < g1.2.2.1 - g1.2.1)) ∧ (k = 2 → g2.2.2.2.2.2.2.2.1 = dl 2 ∧ (¬ mf 2 = 0 → 1 < g2.2.2.1 - g2.2.1))) → ((el blk asr mf dl ch G n j b ru).1 = false → post ((gc, pot, blk, base), (el blk asr mf dl ch G n j b ru).2.1, (op, str, asr, stp, wds, at', clm), gset g0 ((el blk asr mf dl ch G n j b ru).2.2 0), gset g1 ((el blk asr mf dl ch G n j b ru).2.2 1), gset g2 ((el blk asr mf dl ch G n j b ru).2.2 2))) → ((el blk asr mf dl ch G n j b ru).1 = true → post ((0, pot, blk, base), (el blk asr mf dl ch G n j b ru).2.1, (0, str, asr, stp, wds, at', clm), gset g0 ((el blk asr mf dl ch G n j b ru).2.2 0), gset g1 ((el blk asr mf dl ch G n j b ru).2.2 1), gset g2 ((el blk asr mf dl ch G n j b ru).2.2 2))) → wl_Sc_endLateGames_2 post (n + 1) (nI j) (gc, pot, blk, base) b (op, str, asr, stp, wds, at', clm) (gset g0 (ru 0)) (gset g1 (ru 1)) (gset g2 (ru 2)) := by
  intro n
  induction n with
  | zero =>
    intro j b ru hj hi QN QF
    refine ⟨fun _ => QN rfl, fun hn => absurd ?_ hn⟩
    show gc ≤ nI j
    rw [hG]
    exact nI_le (by omega) (by omega)
  | succ n ih =>
    intro j b ru hj hi QN QF
    refine ⟨fun hn => absurd hn ?_, fun _ => ⟨vp_in_nI (by omega) (by decide), ?_⟩⟩
    · show ¬ gc ≤ nI j
      rw [hG]
      exact nI_ge (by omega) (by omega)
    rw [nI_clamp (by omega), nI_1]
    have ha := ha (by omega)
    have hi' : ∀ k, k < G → ¬ upd ru j 0 k = 0 → ¬ ru k = 0 := by
      intro k hk h
      by_cases q : k = j
      · subst q; exact absurd pk_us h
      · rw [up_ne q] at h; exact h
    have ihs := ih (j + 1) b ru (by omega) hi
    have ihw := ih (j + 1) (upd b asr.toNatClampNeg (b asr.toNatClampNeg + 100)) (upd ru j 0) (by omega) (fun k hk h => hi k hk (hi' k hk h))
    rcases g_cs (show j < 3 by omega) with rfl | rfl | rfl
    · refine ⟨fun _ => ⟨fun e => ?_, fun e => ⟨fun e2 => ?_, fun e2 => ?_⟩⟩, fun h => absurd h (by omega), fun h => absurd h (by omega)⟩
      · have e : ru 0 = 0 := e
        rw [el, if_pos e] at QN QF
        exact ihs QN QF
      · have e : ¬ ru 0 = 0 := e
        have hd := ((hi 0 (by omega) e).1 rfl).1
        have e2 : blk ≤ dl 0 := hd ▸ e2
        rw [el, if_neg e, if_pos e2] at QN QF
        exact ihs QN QF
      · have e : ¬ ru 0 = 0 := e
        have hd := ((hi 0 (by omega) e).1 rfl).1
        have e2 : ¬ blk ≤ dl 0 := hd ▸ e2
        have hq := ((hi 0 (by omega) e).1 rfl).2
        rw [el, if_neg e, if_neg e2] at QN QF
        refine st_duty (fun _ => by rw [show (gset g0 (ru 0)).2.2.2.2.2.2.1 = mf 0 from m0]; exact hq) ⟨fun e3 => ?_, fun e3 => ?_⟩
        · have e4 : ¬ mf 0 = 0 := m0 ▸ ((dv_2 e).mp e3)
          rw [if_neg e4] at QN QF
          refine st_pay ha ?_
          have w := ihw QN QF
          rw [pk_us, up_ne (show (1 : Nat) ≠ 0 by decide), up_ne (show (2 : Nat) ≠ 0 by decide)] at w
          exact w
        · have e4 : mf 0 = 0 := by
            by_cases q : mf 0 = 0
            · exact q
            · exact absurd ((dv_2 e).mpr (by rw [show (gset g0 (ru 0)).2.2.2.2.2.2.1 = mf 0 from m0]; exact q)) e3
          rw [if_pos e4] at QN QF
          have w := QF rfl
          dsimp only at w
          rw [pk_us, up_ne (show (1 : Nat) ≠ 0 by decide), up_ne (show (2 : Nat) ≠ 0 by decide)] at w
          exact st_cw0 (ru := ru) hG G3 (by omega) hch rfl rfl rfl c0 c1 c2 w
    · refine ⟨fun h => absurd h (by omega), fun _ => ⟨fun e => ?_, fun e => ⟨fun e2 => ?_, fun e2 => ?_⟩⟩, fun h => absurd h (by omega)⟩
      · have e : ru 1 = 0 := e
        rw [el, if_pos e] at QN QF
        exact ihs QN QF
      · have e : ¬ ru 1 = 0 := e
        have hd := ((hi 1 (by omega) e).2.1 rfl).1
        have e2 : blk ≤ dl 1 := hd ▸ e2
        rw [el, if_neg e, if_pos e2] at QN QF
        exact ihs QN QF
      · have e : ¬ ru 1 = 0 := e
        have hd := ((hi 1 (by omega) e).2.1 rfl).1
        have e2 : ¬ blk ≤ dl 1 := hd ▸ e2
        have hq := ((hi 1 (by omega) e).2.1 rfl).2
        rw [el, if_neg e, if_neg e2] at QN QF
        refine st_duty (fun _ => by rw [show (gset g1 (ru 1)).2.2.2.2.2.2.1 = mf 1 from m1]; exact hq) ⟨fun e3 => ?_, fun e3 => ?_⟩
        · have e4 : ¬ mf 1 = 0 := m1 ▸ ((dv_2 e).mp e3)
          rw [if_neg e4] at QN QF
          refine st_pay ha ?_
          have w := ihw QN QF
          rw [pk_us, up_ne (show (0 : Nat) ≠ 1 by decide), up_ne (show (2 : Nat) ≠ 1 by decide)] at w
          exact w
        · have e4 : mf 1 = 0 := by
            by_cases q : mf 1 = 0
            · exact q
            · exact absurd ((dv_2 e).mpr (by rw [show (gset g1 (ru 1)).2.2.2.2.2.2.1 = mf 1 from m1]; exact q)) e3
          rw [if_pos e4] at QN QF
          have w := QF rfl
          dsimp only at w
          rw [pk_us, up_ne (show (0 : Nat) ≠ 1 by decide), up_ne (show (2 : Nat) ≠ 1 by decide)] at w
          exact st_cw1 (ru := ru) hG G3 (by omega) hch rfl rfl rfl c0 c1 c2 w
    · refine ⟨fun h => absurd h (by omega), fun h => absurd h (by omega), fun _ => ⟨fun e => ?_, fun e => ⟨fun e2 => ?_, fun e2 => ?_⟩⟩⟩
      · have e : ru 2 = 0 := e
        rw [el, if_pos e] at QN QF
        exact ihs QN QF
      · have e : ¬ ru 2 = 0 := e
        have hd := ((hi 2 (by omega) e).2.2 rfl).1
        have e2 : blk ≤ dl 2 := hd ▸ e2
        rw [el, if_neg e, if_pos e2] at QN QF
        exact ihs QN QF
      · have e : ¬ ru 2 = 0 := e
        have hd := ((hi 2 (by omega) e).2.2 rfl).1
        have e2 : ¬ blk ≤ dl 2 := hd ▸ e2
        have hq := ((hi 2 (by omega) e).2.2 rfl).2
        rw [el, if_neg e, if_neg e2] at QN QF
        refine st_duty (fun _ => by rw [show (gset g2 (ru 2)).2.2.2.2.2.2.1 = mf 2 from m2]; exact hq) ⟨fun e3 => ?_, fun e3 => ?_⟩
        · have e4 : ¬ mf 2 = 0 := m2 ▸ ((dv_2 e).mp e3)
          rw [if_neg e4] at QN QF
          refine st_pay ha ?_
          have w := ihw QN QF
          rw [pk_us, up_ne (show (0 : Nat) ≠ 2 by decide), up_ne (show (1 : Nat) ≠ 2 by decide)] at w
          exact w
        · have e4 : mf 2 = 0 := by
            by_cases q : mf 2 = 0
            · exact q
            · exact absurd ((dv_2 e).mpr (by rw [show (gset g2 (ru 2)).2.2.2.2.2.2.1 = mf 2 from m2]; exact q)) e3
          rw [if_pos e4] at QN QF
          have w := QF rfl
          dsimp only at w
          rw [pk_us, up_ne (show (0 : Nat) ≠ 2 by decide), up_ne (show (1 : Nat) ≠ 2 by decide)] at w
          exact st_cw2 (ru := ru) hG G3 (by omega) hch rfl rfl rfl c0 c1 c2 w
theorem st_block {post : Int32 → (ct_Sc × (Nat → Int32) × (Nat → Int32) × (Nat → Int32) × ct_In × (Nat → Int32) × ct_Ma × (Nat → Int32) × ct_Pa × (Nat → Int32) × (Nat → Int32) × ct_As × ct_Ga × ct_Ga × ct_Ga) → Prop} {gc pot blk cnt op str asr stp wds at' : Int32} {base trc clm : Int64} {b ops ag ws rl c pto pam : Nat → Int32} {g0 g1 g2 : ct_Ga} (hd ru mf dl ch : Nat → Int32) (G K : Nat) (hG : gc = nI G) (G3 : G ≤ 3) (ha : 0 < G → vp_in asr 4) (hch : ∀ j, j < G → vp_in (ch j) 4) (c0 : g0.1 = ch 0) (c1 : g1.1 = ch 1) (c2 : g2.1 = ch 2) (m0 : g0.2.2.2.2.2.2.1 = mf 0) (m1 : g1.2.2.2.2.2.2.1 = mf 1) (m2 : g2.2.2.2.2.2.2.1 = mf 2) (r0 : g0.2.2.2.2.2.2.2.2 = ru 0) (r1 : g1.2.2.2.2.2.2.2.2 = ru 1) (r2 : g2.2.2.2.2.2.2.2.2 = ru 2) (hi : ∀ k, k < G → ¬ ru k = 0 → (k = 0 → g0.2.2.2.2.2.2.2.1 = dl 0 ∧ (¬ mf 0 = 0 → 1 < g0.2.2.1 - g0.2.1)) ∧ (k = 1 → g1.2.2.2.2.2.2.2.1 = dl 1 ∧ (¬ mf 1 = 0 → 1 < g1.2.2.1 - g1.2.1)) ∧ (k = 2 → g2.2.2.2.2.2.2.2.1 = dl 2 ∧ (¬ mf 2 = 0 → 1 < g2.2.2.1 - g2.2.1))) (ho : ∀ i, vp_in (ops i) 14) (hn : cnt ≤ 60) (hp : vp_in (rl 0) 16) (h4 : vp_in (rl 4) 31) (hc : ∀ i, i < 8 → c i = rl (5 + i)) (hop : ¬ op = 0 → vp_in asr 4 ∧ stp = nI K ∧ K ≤ 64) (E : Bool × (Nat → Int32) × (Nat → Int32)) (hE : E = el (blk + 1) asr mf dl ch G G 0 b ru)
    (F : E.1 = true → post (blk + 1) ((0, pot, blk + 1, base), E.2.1, ops, ag, cnt, ws, mm rl trc, c, rl 4, pto, pam, (0, str, asr, stp, wds, at', clm), gset g0 (E.2.2 0), gset g1 (E.2.2 1), gset g2 (E.2.2 2)))
    (N : E.1 = false → (op = 0 ∨ blk + 1 < at' + 12 ∨ ¬ rcn E.2.2 G ≤ 0) → post (blk + 1) ((gc, pot, blk + 1, base), E.2.1, ops, ag, cnt, ws, mm rl trc, c, rl 4, pto, pam, (op, str, asr, stp, wds, at', clm), gset g0 (E.2.2 0), gset g1 (E.2.2 1), gset g2 (E.2.2 2)))
    (Y : E.1 = false → ¬ op = 0 → ¬ blk + 1 < at' + 12 → rcn E.2.2 G ≤ 0 → ∀ c', (∀ i, i < 8 → c' i = (spn ops ag ws cnt wds K (hk rl hd) trc).1 (5 + i)) → post (blk + 1) ((0, pot, blk + 1, clm), upd E.2.1 asr.toNatClampNeg (E.2.1 asr.toNatClampNeg + 100), ops, ag, cnt, ws, mm (spn ops ag ws cnt wds K (hk rl hd) trc).1 (spn ops ag ws cnt wds K (hk rl hd) trc).2, c', (spn ops ag ws cnt wds K (hk rl hd) trc).1 4, (pp ops ag ws cnt wds K (hk rl hd) trc pto pam).1, (pp ops ag ws cnt wds K (hk rl hd) trc pto pam).2, (0, str, asr, stp, wds, at', clm), gset g0 (E.2.2 0), gset g1 (E.2.2 1), gset g2 (E.2.2 2))) :
    wp_Sc_block post ((gc, pot, blk, base), b, ops, ag, cnt, ws, mm rl trc, c, rl 4, pto, pam, (op, str, asr, stp, wds, at', clm), g0, g1, g2) := by
  intro f1 e1
  subst e1
  refine ⟨G + 1, ?_⟩
  have e0 : gset g0 (ru 0) = g0 := by rw [← r0]
  have e1 : gset g1 (ru 1) = g1 := by rw [← r1]
  have e2 : gset g2 (ru 2) = g2 := by rw [← r2]
  have w := fun post QN QF => st_el (post := post) (gc := gc) (pot := pot) (blk := blk + 1) (op := op) (str := str) (asr := asr) (stp := stp) (wds := wds) (at' := at') (base := base) (clm := clm) (g0 := g0) (g1 := g1) (g2 := g2) (mf := mf) (dl := dl) (ch := ch) hG G3 ha hch c0 c1 c2 m0 m1 m2 G 0 b ru (by omega) hi QN QF
  rw [e0, e1, e2, ← hE] at w
  refine w _ (fun q => ?_) (fun q => ?_)
  · exact st_stand hd E.2.2 G K hG G3 rfl rfl rfl ho hn hp h4 hc hop (N q) (Y q)
  · exact ⟨fun _ => F q, fun h => absurd rfl h⟩
theorem st_keep {post : (ct_Mo × (Nat → Int32) × (Nat → Int32) × (Nat → Int32) × (Nat → Int32) × (Nat → Int32) × (Nat → Int32) × (Nat → Int32) × (Nat → Int32) × (Nat → Int32)) → Prop} {thr str pot cnt blk op asr stp wds at' gc : Int32} {trc htr base clm : Int64} {b ops ag ws rl hd pto pam ru : Nat → Int32} (G K i : Nat) (hi : i < 3) (ha : vp_in asr 4) (hG : gc = nI G) (G3 : G ≤ 3) (ho : ∀ i, vp_in (ops i) 14) (hn : cnt ≤ 60) (hp : vp_in (rl 0) 16) (h4 : vp_in (rl 4) 31) (hop : ¬ op = 0 → vp_in asr 4 ∧ stp = nI K ∧ K ≤ 64) (b' : Nat → Int32) (hb : b' = upd b asr.toNatClampNeg (b asr.toNatClampNeg + 100))
    (N : (op = 0 ∨ blk < at' + 12 ∨ ¬ rcn (upd ru i 0) G ≤ 0) → post ((thr, str, pot, cnt, blk, trc, htr, base, op, asr, stp, wds, at', clm, gc), ops, ag, b', ws, rl, hd, pto, pam, upd ru i 0))
    (Y : ¬ op = 0 → ¬ blk < at' + 12 → rcn (upd ru i 0) G ≤ 0 → post ((thr, str, pot, cnt, blk, (spn ops ag ws cnt wds K (hk rl hd) trc).2, (spn ops ag ws cnt wds K (hk rl hd) trc).2, clm, 0, asr, stp, wds, at', clm, 0), ops, ag, upd b' asr.toNatClampNeg (b' asr.toNatClampNeg + 100), ws, hk (spn ops ag ws cnt wds K (hk rl hd) trc).1 rl, (spn ops ag ws cnt wds K (hk rl hd) trc).1, (pp ops ag ws cnt wds K (hk rl hd) trc pto pam).1, (pp ops ag ws cnt wds K (hk rl hd) trc pto pam).2, upd ru i 0)) :
    wp_Mo_keep post ((thr, str, pot, cnt, blk, trc, htr, base, op, asr, stp, wds, at', clm, gc), ops, ag, b, ws, rl, hd, pto, pam, ru) (nI i) := by
  refine ⟨vp_in_nI hi (by decide), ha, fun f ef => ⟨ha, ?_⟩⟩
  subst ef
  rw [nI_clamp (by omega)]
  subst hb
  exact st_settle G K hG G3 ho hn hp h4 hop N Y
theorem st_mbl {post : Int32 → (ct_Mo × (Nat → Int32) × (Nat → Int32) × (Nat → Int32) × (Nat → Int32) × (Nat → Int32) × (Nat → Int32) × (Nat → Int32) × (Nat → Int32) × (Nat → Int32) × (Nat → Int32) × (Nat → Int32) × (Nat → Int32) × (Nat → Int32) × (Nat → Int32)) → Prop} {u : ct_Mo × (Nat → Int32) × (Nat → Int32) × (Nat → Int32) × (Nat → Int32) × (Nat → Int32) × (Nat → Int32) × (Nat → Int32) × (Nat → Int32) × (Nat → Int32) × (Nat → Int32) × (Nat → Int32) × (Nat → Int32) × (Nat → Int32) × (Nat → Int32)} {str pot cnt blk op asr stp wds at' gc : Int32} {trc htr base clm : Int64} {ops ag ws rl hd pto pam ch lo hi mf dl : Nat → Int32} (hu : u.2.2.2.2.2.2.2.2.2.2.2.2.2.1 = dl) (G K : Nat) (hG : gc = nI G) (G3 : G ≤ 3) (hch : ∀ j, j < G → vp_in (ch j) 4) (ho : ∀ i, vp_in (ops i) 14) (hn : cnt ≤ 60) (hp : vp_in (rl 0) 16) (h4 : vp_in (rl 4) 31) (hz : ¬ op = 0) (ha : vp_in asr 4) (hs : stp = nI K) (hK : K ≤ 64) : ∀ n j b ru, j + n = G →
    ((el blk asr mf dl ch G n j b ru).1 = true → post blk ((0, str, pot, cnt, blk, trc, htr, base, 0, asr, stp, wds, at', clm, 0), ops, ag, (el blk asr mf dl ch G n j b ru).2.1, ws, rl, hd, pto, pam, ch, lo, hi, mf, dl, (el blk asr mf dl ch G n j b ru).2.2)) →
    ((el blk asr mf dl ch G n j b ru).1 = false → (op = 0 ∨ blk < at' + 12 ∨ ¬ rcn (el blk asr mf dl ch G n j b ru).2.2 G ≤ 0) → post blk ((0, str, pot, cnt, blk, trc, htr, base, op, asr, stp, wds, at', clm, gc), ops, ag, (el blk asr mf dl ch G n j b ru).2.1, ws, rl, hd, pto, pam, ch, lo, hi, mf, dl, (el blk asr mf dl ch G n j b ru).2.2)) →
    ((el blk asr mf dl ch G n j b ru).1 = false → ¬ op = 0 → ¬ blk < at' + 12 → rcn (el blk asr mf dl ch G n j b ru).2.2 G ≤ 0 → post blk ((0, str, pot, cnt, blk, (spn ops ag ws cnt wds K (hk rl hd) trc).2, (spn ops ag ws cnt wds K (hk rl hd) trc).2, clm, 0, asr, stp, wds, at', clm, 0), ops, ag, upd (el blk asr mf dl ch G n j b ru).2.1 asr.toNatClampNeg ((el blk asr mf dl ch G n j b ru).2.1 asr.toNatClampNeg + 100), ws, hk (spn ops ag ws cnt wds K (hk rl hd) trc).1 rl, (spn ops ag ws cnt wds K (hk rl hd) trc).1, (pp ops ag ws cnt wds K (hk rl hd) trc pto pam).1, (pp ops ag ws cnt wds K (hk rl hd) trc pto pam).2, ch, lo, hi, mf, dl, (el blk asr mf dl ch G n j b ru).2.2)) →
    wl_Mo_block_17 post u (n + 2) (nI j) (0, str, pot, cnt, blk, trc, htr, base, op, asr, stp, wds, at', clm, gc) ops ag b ws rl hd pto pam ch lo hi mf ru := by
  subst hu
  intro n
  induction n with
  | zero =>
    intro j b ru hj F N Y
    refine ⟨fun h => absurd h hz, fun _ => ⟨fun _ => st_settle G K hG G3 ho hn hp h4 (fun _ => ⟨ha, hs, hK⟩) (N rfl) (Y rfl), fun hn => absurd ?_ hn⟩⟩
    show gc ≤ nI j
    rw [hG]
    exact nI_le (by omega) (by omega)
  | succ n ih =>
    intro j b ru hj F N Y
    refine ⟨fun h => absurd h hz, fun _ => ⟨fun hn => absurd hn ?_, fun _ => ⟨vp_in_nI (by omega) (by decide), ?_⟩⟩⟩
    · show ¬ gc ≤ nI j
      rw [hG]
      exact nI_ge (by omega) (by omega)
    rw [nI_clamp (by omega), nI_1]
    refine ⟨fun e => ?_, fun e => ⟨vp_in_nI (by omega) (by decide), fun e2 => ?_, fun e2 => ?_⟩⟩
    · rw [el, if_pos e] at F N Y
      exact ih (j + 1) b ru (by omega) F N Y
    · rw [el, if_neg e, if_pos e2] at F N Y
      exact ih (j + 1) b ru (by omega) F N Y
    · rw [el, if_neg e, if_neg e2] at F N Y
      refine st_due (by omega) ⟨fun e3 => ?_, fun e3 => ?_⟩
      · have e4 := (dv_2 e).mp e3
        rw [if_neg e4] at F N Y
        refine st_keep G K j (by omega) ha hG G3 ho hn hp h4 (fun _ => ⟨ha, hs, hK⟩) _ rfl (fun _ => ih (j + 1) _ _ (by omega) F N Y) (fun q1 q2 q3 => ?_)
        have z := rcn_0 G3 q3
        have e5 := el_0 (blk := blk) (asr := asr) (mf := mf) (dl := u.2.2.2.2.2.2.2.2.2.2.2.2.2.1) (ch := ch) (G := G) n (j + 1) (upd b asr.toNatClampNeg (b asr.toNatClampNeg + 100)) (upd ru j 0) (fun k h1 h2 => z k (by omega))
        rw [e5] at Y
        exact ⟨fun _ => ⟨fun _ => Y rfl q1 q2 q3, fun h => absurd rfl h⟩, fun h => absurd rfl h⟩
      · have e4 : mf j = 0 := by
          by_cases q : mf j = 0
          · exact q
          · exact absurd ((dv_2 e).mpr q) e3
        rw [if_pos e4] at F N Y
        refine st_fall (G := G) hG G3 (by omega) hch ?_
        exact ⟨fun _ => ⟨fun _ => F rfl, fun h => absurd rfl h⟩, fun h => absurd rfl h⟩
/-! a block in the reference; parties; a challenge -/
theorem st_mblock {post : Int32 → (ct_Mo × (Nat → Int32) × (Nat → Int32) × (Nat → Int32) × (Nat → Int32) × (Nat → Int32) × (Nat → Int32) × (Nat → Int32) × (Nat → Int32) × (Nat → Int32) × (Nat → Int32) × (Nat → Int32) × (Nat → Int32) × (Nat → Int32) × (Nat → Int32)) → Prop} {thr str pot cnt blk op asr stp wds at' gc : Int32} {trc htr base clm : Int64} {b ops ag ws rl hd pto pam ch lo hi mf dl ru : Nat → Int32} (G K : Nat) (hG : gc = nI G) (G3 : G ≤ 3) (hG0 : op = 0 → G = 0) (hch : ∀ j, j < G → vp_in (ch j) 4) (ho : ∀ i, vp_in (ops i) 14) (hn : cnt ≤ 60) (hp : vp_in (rl 0) 16) (h4 : vp_in (rl 4) 31) (hop : ¬ op = 0 → vp_in asr 4 ∧ stp = nI K ∧ K ≤ 64) (E : Bool × (Nat → Int32) × (Nat → Int32)) (hE : E = el (blk + 1) asr mf dl ch G G 0 b ru)
    (F : E.1 = true → post (blk + 1) ((0, str, pot, cnt, blk + 1, trc, htr, base, 0, asr, stp, wds, at', clm, 0), ops, ag, E.2.1, ws, rl, hd, pto, pam, ch, lo, hi, mf, dl, E.2.2))
    (N : E.1 = false → (op = 0 ∨ blk + 1 < at' + 12 ∨ ¬ rcn E.2.2 G ≤ 0) → post (blk + 1) ((0, str, pot, cnt, blk + 1, trc, htr, base, op, asr, stp, wds, at', clm, gc), ops, ag, E.2.1, ws, rl, hd, pto, pam, ch, lo, hi, mf, dl, E.2.2))
    (Y : E.1 = false → ¬ op = 0 → ¬ blk + 1 < at' + 12 → rcn E.2.2 G ≤ 0 → post (blk + 1) ((0, str, pot, cnt, blk + 1, (spn ops ag ws cnt wds K (hk rl hd) trc).2, (spn ops ag ws cnt wds K (hk rl hd) trc).2, clm, 0, asr, stp, wds, at', clm, 0), ops, ag, upd E.2.1 asr.toNatClampNeg (E.2.1 asr.toNatClampNeg + 100), ws, hk (spn ops ag ws cnt wds K (hk rl hd) trc).1 rl, (spn ops ag ws cnt wds K (hk rl hd) trc).1, (pp ops ag ws cnt wds K (hk rl hd) trc pto pam).1, (pp ops ag ws cnt wds K (hk rl hd) trc pto pam).2, ch, lo, hi, mf, dl, E.2.2)) :
    wp_Mo_block post ((thr, str, pot, cnt, blk, trc, htr, base, op, asr, stp, wds, at', clm, gc), ops, ag, b, ws, rl, hd, pto, pam, ch, lo, hi, mf, dl, ru) := by
  intro f1 e1
  subst e1
  by_cases hz : op = 0
  · have g0 := hG0 hz
    subst g0
    subst hE
    exact ⟨1, ⟨fun _ => ⟨fun _ => N rfl (.inl hz), fun h => absurd hz h⟩, fun h => absurd hz h⟩⟩
  · obtain ⟨ha, hs, hK⟩ := hop hz
    subst hE
    exact ⟨G + 2, st_mbl rfl G K hG G3 hch ho hn hp h4 hz ha hs hK G 0 b ru (by omega) F N Y⟩
theorem v4_iff {k : Int32} : vp_in k 4 ↔ ¬ k < 0 ∧ ¬ 4 ≤ k := by
  rw [vp_in_iff, i32_lt, i32_le, Int32.toInt_zero, show (4 : Int32).toInt = 4 by decide]
  omega
theorem st_isP {post : Int32 → Unit → Prop} {k : Int32} (N : ¬ vp_in k 4 → post 0 ()) (Y : vp_in k 4 → post 1 ()) : wp_Sc_isParty post () k := by
  refine ⟨fun e => N ?_, fun e => ⟨fun e2 => N ?_, fun e2 => Y (v4_iff.mpr ⟨e, e2⟩)⟩⟩
  · intro h; exact (v4_iff.mp h).1 e
  · intro h; exact (v4_iff.mp h).2 e2
theorem st_misP {post : Int32 → Unit → Prop} {k : Int32} (N : ¬ vp_in k 4 → post 0 ()) (Y : vp_in k 4 → post 1 ()) : wp_Mo_isParty post () k := by
  refine ⟨fun e => N ?_, fun e => ⟨fun e2 => N ?_, fun e2 => Y (v4_iff.mpr ⟨e, fun q => e2 (i4_3.mp q)⟩)⟩⟩
  · intro h; exact (v4_iff.mp h).1 e
  · intro h; exact (v4_iff.mp h).2 (i4_3.mpr e2)
theorem st_req {post : Unit → Unit → Prop} {px : String → Unit → Prop} {k : Int32} (N : ¬ vp_in k 4 → px "java/lang/IndexOutOfBoundsException" ()) (Y : vp_in k 4 → post () ()) : wp_Sc_requireParty post px () k := by
  refine st_isP (fun h => ⟨fun _ => N h, fun h => absurd rfl h⟩) (fun h => ⟨fun h => absurd h (by decide), fun _ => Y h⟩)
def fd (ch : Nat → Int32) (k : Int32) : Nat → Int32
  | 0 => 0
  | n + 1 => if fd ch k n = 0 then (if ch n = k then 1 else 0) else 1
theorem fd_m {ch : Nat → Int32} {k : Int32} : ∀ n j, ¬ fd ch k j = 0 → ¬ fd ch k (j + n) = 0 := by
  intro n
  induction n with
  | zero => intro j h; exact h
  | succ n ih =>
    intro j h
    have := ih j h
    show ¬ (if fd ch k (j + n) = 0 then (if ch (j + n) = k then 1 else 0) else 1) = 0
    rw [if_neg this]
    decide
theorem fd_0 {ch : Nat → Int32} {k : Int32} {n : Nat} (h : fd ch k n = 0) : ∀ j, j < n → ch j ≠ k := by
  intro j hj e
  have h1 : ¬ fd ch k (j + 1) = 0 := by
    show ¬ (if fd ch k j = 0 then (if ch j = k then 1 else 0) else 1) = 0
    by_cases q : fd ch k j = 0
    · rw [if_pos q, if_pos e]; decide
    · rw [if_neg q]; decide
  have h2 := fd_m (n - (j + 1)) (j + 1) h1
  rw [show j + 1 + (n - (j + 1)) = n by omega] at h2
  exact h2 h
theorem st_hc {post : Int32 → (ct_Sc × ct_Ga × ct_Ga × ct_Ga) → Prop} {o : ct_Sc} {g0 g1 g2 : ct_Ga} {ch : Nat → Int32} {k : Int32} {G : Nat} (hG : o.1 = nI G) (G3 : G ≤ 3) (c0 : g0.1 = ch 0) (c1 : g1.1 = ch 1) (c2 : g2.1 = ch 2) (N : fd ch k G = 0 → post 0 (o, g0, g1, g2)) (Y : ¬ fd ch k G = 0 → post 1 (o, g0, g1, g2)) : wp_Sc_hasChallenged post (o, g0, g1, g2) k := by
  have L : ∀ n j, j + n = G → fd ch k j = 0 → wl_Sc_hasChallenged_2 post (o, g0, g1, g2) k (n + 1) (nI j) := by
    intro n
    induction n with
    | zero =>
      intro j hj h0
      have hj : j = G := by omega
      subst hj
      refine ⟨fun _ => N h0, fun hn => absurd ?_ hn⟩
      show o.1 ≤ nI j
      rw [hG]
      exact nI_le (by omega) (by omega)
    | succ n ih =>
      intro j hj h0
      have y : ch j = k → post 1 (o, g0, g1, g2) := fun e => Y (fun q => fd_0 q j (by omega) e)
      have w : ¬ ch j = k → wl_Sc_hasChallenged_2 post (o, g0, g1, g2) k (n + 1) (nI j + 1) := fun e => by
        rw [nI_1]
        refine ih (j + 1) (by omega) ?_
        show (if fd ch k j = 0 then (if ch j = k then 1 else 0) else 1) = 0
        rw [if_pos h0, if_neg e]
      refine ⟨fun hn => absurd hn ?_, fun _ => ⟨vp_in_nI (by omega) (by decide), ?_⟩⟩
      · show ¬ o.1 ≤ nI j
        rw [hG]
        exact nI_ge (by omega) (by omega)
      rw [nI_clamp (by omega)]
      rcases g_cs (show j < 3 by omega) with rfl | rfl | rfl
      · refine ⟨fun _ => ?_, fun h => absurd h (by omega), fun h => absurd h (by omega)⟩
        show (g0.1 = k → _) ∧ (¬ g0.1 = k → _)
        rw [c0]
        exact ⟨y, w⟩
      · refine ⟨fun h => absurd h (by omega), fun _ => ?_, fun h => absurd h (by omega)⟩
        show (g1.1 = k → _) ∧ (¬ g1.1 = k → _)
        rw [c1]
        exact ⟨y, w⟩
      · refine ⟨fun h => absurd h (by omega), fun h => absurd h (by omega), fun _ => ?_⟩
        show (g2.1 = k → _) ∧ (¬ g2.1 = k → _)
        rw [c2]
        exact ⟨y, w⟩
  exact ⟨G + 1, L G 0 (by omega) rfl⟩
theorem st_chal {post : Int32 → (ct_Sc × (Nat → Int32) × ct_As × ct_Ga × ct_Ga × ct_Ga) → Prop} {px : String → (ct_Sc × (Nat → Int32) × ct_As × ct_Ga × ct_Ga × ct_Ga) → Prop} {gc pot blk op str asr stp wds at' : Int32} {base clm : Int64} {b : Nat → Int32} {g0 g1 g2 : ct_Ga} {k : Int32} (ch : Nat → Int32) (G : Nat) (hG : gc = nI G) (G3 : G ≤ 3) (c0 : g0.1 = ch 0) (c1 : g1.1 = ch 1) (c2 : g2.1 = ch 2) (hG3 : vp_in k 4 → ¬ op = 0 → ¬ k = asr → fd ch k G = 0 → G < 3)
    (P : ¬ vp_in k 4 → px "java/lang/IndexOutOfBoundsException" ((gc, pot, blk, base), b, (op, str, asr, stp, wds, at', clm), g0, g1, g2))
    (S : vp_in k 4 → (op = 0 ∨ k = asr ∨ ¬ fd ch k G = 0) → px "java/lang/IllegalStateException" ((gc, pot, blk, base), b, (op, str, asr, stp, wds, at', clm), g0, g1, g2))
    (U : vp_in k 4 → ¬ op = 0 → ¬ k = asr → fd ch k G = 0 → ¬ 100 ≤ b k.toNatClampNeg → px "java/lang/UnsupportedOperationException" ((gc, pot, blk, base), b, (op, str, asr, stp, wds, at', clm), g0, g1, g2))
    (O : vp_in k 4 → ¬ op = 0 → ¬ k = asr → fd ch k G = 0 → 100 ≤ b k.toNatClampNeg → post (gc + 1 - 1) ((gc + 1, pot, blk, base), upd b k.toNatClampNeg (b k.toNatClampNeg - 100), (op, str, asr, stp, wds, at', clm), if G = 0 then (k, 0, stp, base, clm, 0, 0, blk + 4, 1) else g0, if G = 1 then (k, 0, stp, base, clm, 0, 0, blk + 4, 1) else g1, if G = 2 then (k, 0, stp, base, clm, 0, 0, blk + 4, 1) else g2)) :
    wp_Sc_challenge post px ((gc, pot, blk, base), b, (op, str, asr, stp, wds, at', clm), g0, g1, g2) k := by
  refine st_req P (fun hk => ⟨fun e => S hk (.inl e), fun e => ⟨fun e2 => S hk (.inr (.inl e2)), fun e2 => st_hc (ch := ch) hG G3 c0 c1 c2 (fun e3 => ⟨fun _ => ?_, fun h => absurd rfl h⟩) (fun e3 => ⟨fun h => absurd h (by decide), fun _ => S hk (.inr (.inr e3))⟩)⟩⟩)
  have g3 := hG3 hk e e2 e3
  refine ⟨fun _ => ⟨hk, fun e4 => ⟨hk, fun f ef => ⟨hk, ?_⟩⟩, fun e4 => U hk e e2 e3 e4⟩, fun h => absurd ?_ h⟩
  · have w := O hk e e2 e3 e4
    subst ef
    have hv : vp_in gc 3 := by
      rw [hG]; exact vp_in_nI g3 (by decide)
    refine ⟨hv, ?_⟩
    show (gc.toNatClampNeg = 0 → _) ∧ (gc.toNatClampNeg = 1 → _) ∧ (gc.toNatClampNeg = 2 → _)
    rw [show gc.toNatClampNeg = G by rw [hG, nI_clamp (by omega)]]
    refine ⟨fun q f1 e1 f2 e2 => ?_, fun q f1 e1 f2 e2 => ?_, fun q f1 e1 f2 e2 => ?_⟩
    · subst q; subst e1; subst e2; exact w
    · subst q; subst e1; subst e2; exact w
    · subst q; subst e1; subst e2; exact w
  · show gc < 3
    rw [hG]
    exact nI_lt (b := 3) g3 (by decide)
theorem st_m36 {post : Int32 → (ct_Mo × (Nat → Int32) × (Nat → Int32) × (Nat → Int32) × (Nat → Int32) × (Nat → Int64) × (Nat → Int64) × (Nat → Int32) × (Nat → Int64) × (Nat → Int32) × (Nat → Int32)) → Prop} {thr str pot cnt blk op asr stp wds at' gc : Int32} {trc htr base clm : Int64} {b ch lo hi mf dl ru : Nat → Int32} {lc hc md : Nat → Int64} {k : Int32} (G : Nat) (hG : gc = nI G) (G3 : G ≤ 3) (hk : vp_in k 4)
    (S : ∀ z : Int32, ¬ z = 0 → post 0 ((2, str, pot, cnt, blk, trc, htr, base, op, asr, stp, wds, at', clm, gc), b, ch, lo, hi, lc, hc, mf, md, dl, ru)) (z0 : Int32) (hz : ¬ z0 = 0) : ∀ n j, j + n = G → wl_Mo_challenge_36 post ((thr, str, pot, cnt, blk, trc, htr, base, op, asr, stp, wds, at', clm, gc), b, ch, lo, hi, lc, hc, mf, md, dl, ru) k (n + 1) (nI j) 1 := by
  intro n
  induction n with
  | zero =>
    intro j hj
    refine ⟨fun _ => ⟨fun h => absurd h (by decide), fun _ => S z0 hz⟩, fun hn => absurd ?_ hn⟩
    show gc ≤ nI j
    rw [hG]
    exact nI_le (by omega) (by omega)
  | succ n ih =>
    intro j hj
    have w := ih (j + 1) (by omega)
    rw [← nI_1] at w
    refine ⟨fun hn => absurd hn ?_, fun _ => ⟨fun h => absurd h (by decide), fun _ => w⟩⟩
    show ¬ gc ≤ nI j
    rw [hG]
    exact nI_ge (by omega) (by omega)
theorem st_m36_1 {post : Int32 → (ct_Mo × (Nat → Int32) × (Nat → Int32) × (Nat → Int32) × (Nat → Int32) × (Nat → Int64) × (Nat → Int64) × (Nat → Int32) × (Nat → Int64) × (Nat → Int32) × (Nat → Int32)) → Prop} {thr str pot cnt blk op asr stp wds at' gc : Int32} {trc htr base clm : Int64} {b ch lo hi mf dl ru : Nat → Int32} {lc hc md : Nat → Int64} {k : Int32} (G : Nat) (hG : gc = nI G) (G3 : G ≤ 3) (hk : vp_in k 4)
    (S : ∀ z : Int32, ¬ z = 0 → post 0 ((2, str, pot, cnt, blk, trc, htr, base, op, asr, stp, wds, at', clm, gc), b, ch, lo, hi, lc, hc, mf, md, dl, ru)) (z0 : Int32) (hz : ¬ z0 = 0) : ∀ n j, j + n = G → wl_Mo_challenge_36_1 post ((thr, str, pot, cnt, blk, trc, htr, base, op, asr, stp, wds, at', clm, gc), b, ch, lo, hi, lc, hc, mf, md, dl, ru) k (n + 1) (nI j) 1 := by
  intro n
  induction n with
  | zero =>
    intro j hj
    refine ⟨fun _ => ⟨fun h => absurd h (by decide), fun _ => S z0 hz⟩, fun hn => absurd ?_ hn⟩
    show gc ≤ nI j
    rw [hG]
    exact nI_le (by omega) (by omega)
  | succ n ih =>
    intro j hj
    have w := ih (j + 1) (by omega)
    rw [← nI_1] at w
    refine ⟨fun hn => absurd hn ?_, fun _ => ⟨fun h => absurd h (by decide), fun _ => w⟩⟩
    show ¬ gc ≤ nI j
    rw [hG]
    exact nI_ge (by omega) (by omega)
theorem st_m36_2 {post : Int32 → (ct_Mo × (Nat → Int32) × (Nat → Int32) × (Nat → Int32) × (Nat → Int32) × (Nat → Int64) × (Nat → Int64) × (Nat → Int32) × (Nat → Int64) × (Nat → Int32) × (Nat → Int32)) → Prop} {thr str pot cnt blk op asr stp wds at' gc : Int32} {trc htr base clm : Int64} {b ch lo hi mf dl ru : Nat → Int32} {lc hc md : Nat → Int64} {k : Int32} (G : Nat) (hG : gc = nI G) (G3 : G ≤ 3) (hk : vp_in k 4)
    (S : ∀ z : Int32, ¬ z = 0 → post 0 ((2, str, pot, cnt, blk, trc, htr, base, op, asr, stp, wds, at', clm, gc), b, ch, lo, hi, lc, hc, mf, md, dl, ru)) (z0 : Int32) (hz : ¬ z0 = 0) : ∀ n j, j + n = G → wl_Mo_challenge_36_2 post ((thr, str, pot, cnt, blk, trc, htr, base, op, asr, stp, wds, at', clm, gc), b, ch, lo, hi, lc, hc, mf, md, dl, ru) k (n + 1) (nI j) 1 := by
  intro n
  induction n with
  | zero =>
    intro j hj
    refine ⟨fun _ => ⟨fun h => absurd h (by decide), fun _ => S z0 hz⟩, fun hn => absurd ?_ hn⟩
    show gc ≤ nI j
    rw [hG]
    exact nI_le (by omega) (by omega)
  | succ n ih =>
    intro j hj
    have w := ih (j + 1) (by omega)
    rw [← nI_1] at w
    refine ⟨fun hn => absurd hn ?_, fun _ => ⟨fun h => absurd h (by decide), fun _ => w⟩⟩
    show ¬ gc ≤ nI j
    rw [hG]
    exact nI_ge (by omega) (by omega)
theorem st_mchal {post : Int32 → (ct_Mo × (Nat → Int32) × (Nat → Int32) × (Nat → Int32) × (Nat → Int32) × (Nat → Int64) × (Nat → Int64) × (Nat → Int32) × (Nat → Int64) × (Nat → Int32) × (Nat → Int32)) → Prop} {thr str pot cnt blk op asr stp wds at' gc : Int32} {trc htr base clm : Int64} {b ch lo hi mf dl ru : Nat → Int32} {lc hc md : Nat → Int64} {k : Int32} (G : Nat) (hG : gc = nI G) (G3 : G ≤ 3) (hG3 : vp_in k 4 → ¬ op = 0 → ¬ k = asr → fd ch k G = 0 → G < 3)
    (P : ¬ vp_in k 4 → post 0 ((1, str, pot, cnt, blk, trc, htr, base, op, asr, stp, wds, at', clm, gc), b, ch, lo, hi, lc, hc, mf, md, dl, ru))
    (S : vp_in k 4 → (op = 0 ∨ k = asr ∨ ¬ fd ch k G = 0) → post 0 ((2, str, pot, cnt, blk, trc, htr, base, op, asr, stp, wds, at', clm, gc), b, ch, lo, hi, lc, hc, mf, md, dl, ru))
    (U : vp_in k 4 → ¬ op = 0 → ¬ k = asr → fd ch k G = 0 → ¬ 100 ≤ b k.toNatClampNeg → post 0 ((3, str, pot, cnt, blk, trc, htr, base, op, asr, stp, wds, at', clm, gc), b, ch, lo, hi, lc, hc, mf, md, dl, ru))
    (O : vp_in k 4 → ¬ op = 0 → ¬ k = asr → fd ch k G = 0 → 100 ≤ b k.toNatClampNeg → post (gc + 1 - 1) ((0, str, pot, cnt, blk, trc, htr, base, op, asr, stp, wds, at', clm, gc + 1), upd b k.toNatClampNeg (b k.toNatClampNeg - 100), upd ch G k, upd lo G 0, upd hi G stp, vp_updL lc G base, vp_updL hc G clm, upd mf G 0, vp_updL md G 0, upd dl G (blk + 4), upd ru G 1)) :
    wp_Mo_challenge post ((thr, str, pot, cnt, blk, trc, htr, base, op, asr, stp, wds, at', clm, gc), b, ch, lo, hi, lc, hc, mf, md, dl, ru) k := by
  refine st_misP (fun h => ⟨fun _ => P h, fun h => absurd rfl h⟩) (fun hk => ⟨fun h => absurd h (by decide), fun _ => ⟨fun e => ?_, fun e => ⟨fun e2 => ?_, fun e2 => ?_⟩⟩⟩)
  · exact ⟨G + 1, st_m36 G hG G3 hk (fun _ _ => S hk (.inl e)) 1 (by decide) G 0 (by omega)⟩
  · exact ⟨G + 1, st_m36_2 G hG G3 hk (fun _ _ => S hk (.inr (.inl e2))) 1 (by decide) G 0 (by omega)⟩
  · have L : ∀ n j, j + n = G → wl_Mo_challenge_36_1 post ((thr, str, pot, cnt, blk, trc, htr, base, op, asr, stp, wds, at', clm, gc), b, ch, lo, hi, lc, hc, mf, md, dl, ru) k (n + 1) (nI j) (fd ch k j) := by
      intro n
      induction n with
      | zero =>
        intro j hj
        have hj : j = G := by omega
        subst hj
        refine ⟨fun _ => ⟨fun e3 => ?_, fun e3 => S hk (.inr (.inr e3))⟩, fun hn => absurd ?_ hn⟩
        · have g3 := hG3 hk e e2 e3
          have hv : vp_in gc 3 := by
            rw [hG]; exact vp_in_nI g3 (by decide)
          refine ⟨hk, fun e4 => ?_, fun e4 => U hk e e2 e3 e4⟩
          have w := O hk e e2 e3 e4
          refine ⟨hk, fun f ef => ⟨hk, hv, hv, hv, hv, hv, hv, hv, fun f2 ef2 => ⟨hv, hv, fun f3 ef3 => ?_⟩⟩⟩
          subst ef; subst ef2; subst ef3
          have eg : gc.toNatClampNeg = j := by rw [hG, nI_clamp (by omega)]
          show post _ (_, _, upd ch gc.toNatClampNeg k, upd lo gc.toNatClampNeg 0, upd hi gc.toNatClampNeg stp, vp_updL lc gc.toNatClampNeg base, vp_updL hc gc.toNatClampNeg clm, upd mf gc.toNatClampNeg 0, vp_updL md gc.toNatClampNeg 0, upd dl gc.toNatClampNeg (blk + 4), upd ru gc.toNatClampNeg 1)
          rw [eg]
          exact w
        · show gc ≤ nI j
          rw [hG]
          exact nI_le (by omega) (by omega)
      | succ n ih =>
        intro j hj
        have w := ih (j + 1) (by omega)
        rw [← nI_1] at w
        refine ⟨fun hn => absurd hn ?_, fun _ => ⟨fun e3 => ⟨vp_in_nI (by omega) (by decide), ?_⟩, fun e3 => ?_⟩⟩
        · show ¬ gc ≤ nI j
          rw [hG]
          exact nI_ge (by omega) (by omega)
        · rw [nI_clamp (by omega)]
          refine ⟨fun e4 => ?_, fun e4 => ?_⟩
          · have e4 : ch j = k := e4
            rw [fd, if_pos e3, if_pos e4] at w; exact w
          · have e4 : ¬ ch j = k := e4
            rw [fd, if_pos e3, if_neg e4] at w; exact w
        · rw [fd, if_neg e3] at w; exact w
    exact ⟨G + 1, L G 0 (by omega)⟩
/-! the games' moves: post and pick -/
def gq (g : ct_Ga) (ch lo hi mf dl ru : Nat → Int32) (lc hc md : Nat → Int64) (i : Nat) : Prop := g.1 = ch i ∧ g.2.1 = lo i ∧ g.2.2.1 = hi i ∧ g.2.2.2.1 = lc i ∧ g.2.2.2.2.1 = hc i ∧ g.2.2.2.2.2.1 = md i ∧ g.2.2.2.2.2.2.1 = mf i ∧ (¬ ru i = 0 → g.2.2.2.2.2.2.2.1 = dl i) ∧ g.2.2.2.2.2.2.2.2 = ru i
theorem st_isG {post : Int32 → ct_Sc → Prop} {o : ct_Sc} {k : Int32} {G : Nat} (hG : o.1 = nI G) (G3 : G ≤ 3) (N : (¬ ∃ i, i < G ∧ k = nI i) → post 0 o) (Y : ∀ i, i < G → k = nI i → post 1 o) : wp_Sc_isGame post o k := by
  refine ⟨fun e => N ?_, fun e => ⟨fun e2 => N ?_, fun e2 => ⟨fun e3 => N ?_, fun e3 => ?_⟩⟩⟩
  · rintro ⟨i, hi, rfl⟩
    exact nI_pos (by omega) e
  · rintro ⟨i, hi, rfl⟩
    rw [hG] at e2
    exact nI_ge hi (by omega) e2
  · rintro ⟨i, hi, rfl⟩
    exact nI_ge (b := 3) (by omega) (by decide) e3
  · obtain ⟨i, hi, rfl⟩ := nI_of e
    refine Y i ?_ rfl
    rcases (show i < G ∨ G ≤ i by omega) with q | q
    · exact q
    · rw [hG] at e2
      exact absurd (nI_le q (by omega)) e2
theorem st_misG {post : Int32 → ct_Mo → Prop} {o : ct_Mo} {k : Int32} {G : Nat} (hG : o.2.2.2.2.2.2.2.2.2.2.2.2.2.2 = nI G) (G3 : G ≤ 3) (h0 : o.2.2.2.2.2.2.2.2.1 = 0 → G = 0) (N : (¬ ∃ i, i < G ∧ k = nI i) → post 0 o) (Y : ∀ i, i < G → k = nI i → post 1 o) : wp_Mo_isGame post o k := by
  refine ⟨fun e => N ?_, fun _ => ⟨fun e => N ?_, fun e => ⟨fun e2 => N ?_, fun e2 => ?_⟩⟩⟩
  · rintro ⟨i, hi, rfl⟩
    have := h0 e
    omega
  · rintro ⟨i, hi, rfl⟩
    exact nI_pos (by omega) e
  · rintro ⟨i, hi, rfl⟩
    rw [hG] at e2
    exact nI_ge hi (by omega) e2
  · obtain ⟨i, hi, rfl⟩ := nI_of e
    refine Y i ?_ rfl
    rcases (show i < G ∨ G ≤ i by omega) with q | q
    · exact q
    · rw [hG] at e2
      exact absurd (nI_le q (by omega)) e2
theorem st_gwd {post : Nat → (ct_Sc × ct_Ga × ct_Ga × ct_Ga) → Prop} {px : String → (ct_Sc × ct_Ga × ct_Ga × ct_Ga) → Prop} {o : ct_Sc} {g0 g1 g2 : ct_Ga} {k d : Int32} {ch lo hi mf dl ru : Nat → Int32} {lc hc md : Nat → Int64} {G : Nat} (hG : o.1 = nI G) (G3 : G ≤ 3) (q0 : gq g0 ch lo hi mf dl ru lc hc md 0) (q1 : gq g1 ch lo hi mf dl ru lc hc md 1) (q2 : gq g2 ch lo hi mf dl ru lc hc md 2) (hm : ∀ i, i < G → ¬ ru i = 0 → ¬ mf i = 0 → 1 < hi i - lo i)
    (P : (¬ ∃ i, i < G ∧ k = nI i) → px "java/lang/IndexOutOfBoundsException" (o, g0, g1, g2))
    (S : ∀ i, i < G → k = nI i → ¬ dv (lo i) (hi i) (mf i) (ru i) = d → px "java/lang/IllegalStateException" (o, g0, g1, g2))
    (O : ∀ i, i < G → k = nI i → dv (lo i) (hi i) (mf i) (ru i) = d → post i (o, g0, g1, g2)) : wp_Sc_gameWithDuty post px (o, g0, g1, g2) k d := by
  refine st_isG hG G3 (fun h => ⟨fun _ => P h, fun h => absurd rfl h⟩) (fun i hi e => ⟨fun h => absurd h (by decide), fun _ => ?_⟩)
  subst e
  refine ⟨vp_in_nI (by omega) (by decide), ?_⟩
  rw [nI_clamp (by omega)]
  rcases g_cs (show i < 3 by omega) with rfl | rfl | rfl
  · obtain ⟨a1, a2, a3, a4, a5, a6, a7, a8, a9⟩ := q0
    refine ⟨fun _ => ?_, fun h => absurd h (by omega), fun h => absurd h (by omega)⟩
    refine st_duty (g := g0) (fun h1 h2 => by rw [a2, a3]; exact hm 0 hi (a9 ▸ h1) (a7 ▸ h2)) ?_
    rw [a2, a3, a7, a9]
    exact ⟨fun e => O 0 hi rfl e, fun e => S 0 hi rfl e⟩
  · obtain ⟨a1, a2, a3, a4, a5, a6, a7, a8, a9⟩ := q1
    refine ⟨fun h => absurd h (by omega), fun _ => ?_, fun h => absurd h (by omega)⟩
    refine st_duty (g := g1) (fun h1 h2 => by rw [a2, a3]; exact hm 1 hi (a9 ▸ h1) (a7 ▸ h2)) ?_
    rw [a2, a3, a7, a9]
    exact ⟨fun e => O 1 hi rfl e, fun e => S 1 hi rfl e⟩
  · obtain ⟨a1, a2, a3, a4, a5, a6, a7, a8, a9⟩ := q2
    refine ⟨fun h => absurd h (by omega), fun h => absurd h (by omega), fun _ => ?_⟩
    refine st_duty (g := g2) (fun h1 h2 => by rw [a2, a3]; exact hm 2 hi (a9 ▸ h1) (a7 ▸ h2)) ?_
    rw [a2, a3, a7, a9]
    exact ⟨fun e => O 2 hi rfl e, fun e => S 2 hi rfl e⟩
theorem st_post {post : Int64 → (ct_Sc × (Nat → Int32) × (Nat → Int32) × ct_In × (Nat → Int32) × ct_Ma × (Nat → Int32) × ct_Ma × (Nat → Int32) × (Nat → Int64) × ct_As × ct_Ga × ct_Ga × ct_Ga) → Prop} {px : String → (ct_Sc × (Nat → Int32) × (Nat → Int32) × ct_In × (Nat → Int32) × ct_Ma × (Nat → Int32) × ct_Ma × (Nat → Int32) × (Nat → Int64) × ct_As × ct_Ga × ct_Ga × ct_Ga) → Prop} {gc pot blk cnt op str asr stp wds at' : Int32} {base trc clm k2 : Int64} {ops ag ws rl c sc : Nat → Int32} {sm : ct_Ma} {st : Nat → Int64} {g0 g1 g2 : ct_Ga} {k : Int32} {ch lo hi mf dl ru : Nat → Int32} {lc hc md : Nat → Int64} (hd : Nat → Int32) (M : Nat → Nat) {G : Nat} (hG : gc = nI G) (G3 : G ≤ 3) (h0 : op = 0 → G = 0) (q0 : gq g0 ch lo hi mf dl ru lc hc md 0) (q1 : gq g1 ch lo hi mf dl ru lc hc md 1) (q2 : gq g2 ch lo hi mf dl ru lc hc md 2) (hm : ∀ i, i < G → ¬ ru i = 0 → ¬ mf i = 0 → 1 < hi i - lo i) (hM : ∀ i, i < G → M i < 2 ^ 31 ∧ (lo i + hi i) / 2 = nI (M i)) (V : Nat → Int64) (hV : ∀ i, i < G → V i = cv (spn ops ag ws cnt wds (M i) (hk rl hd) trc).1 (spn ops ag ws cnt wds (M i) (hk rl hd) trc).2) (ho : ∀ i, vp_in (ops i) 14) (hn : cnt ≤ 60) (hp : vp_in (rl 0) 16) (hcl : ∀ i, i < 8 → c i = rl (5 + i))
    (P : (¬ ∃ i, i < G ∧ k = nI i) → px "java/lang/IndexOutOfBoundsException" ((gc, pot, blk, base), ops, ag, cnt, ws, mm rl trc, c, sm, sc, st, (op, str, asr, stp, wds, at', clm), g0, g1, g2))
    (S : ∀ i, i < G → k = nI i → ¬ dv (lo i) (hi i) (mf i) (ru i) = 1 → px "java/lang/IllegalStateException" ((gc, pot, blk, base), ops, ag, cnt, ws, mm rl trc, c, sm, sc, st, (op, str, asr, stp, wds, at', clm), g0, g1, g2))
    (O : ∀ i, i < G → k = nI i → dv (lo i) (hi i) (mf i) (ru i) = 1 → ∀ sm' sc' st', post (V i ^^^ k2) ((gc, pot, blk, base), ops, ag, cnt, ws, mm rl trc, c, sm', sc', st', (op, str, asr, stp, wds, at', clm), if i = 0 then (g0.1, g0.2.1, g0.2.2.1, g0.2.2.2.1, g0.2.2.2.2.1, V i ^^^ k2, 1, blk + 4, g0.2.2.2.2.2.2.2.2) else g0, if i = 1 then (g1.1, g1.2.1, g1.2.2.1, g1.2.2.2.1, g1.2.2.2.2.1, V i ^^^ k2, 1, blk + 4, g1.2.2.2.2.2.2.2.2) else g1, if i = 2 then (g2.1, g2.2.1, g2.2.2.1, g2.2.2.2.1, g2.2.2.2.2.1, V i ^^^ k2, 1, blk + 4, g2.2.2.2.2.2.2.2.2) else g2)) :
    wp_Sc_post post px ((gc, pot, blk, base), ops, ag, cnt, ws, mm rl trc, c, sm, sc, st, (op, str, asr, stp, wds, at', clm), g0, g1, g2) k k2 := by
  refine st_gwd hG G3 q0 q1 q2 hm P S (fun i hi e ed => ?_)
  have w := O i hi e ed
  obtain ⟨hM1, hM2⟩ := hM i hi
  have hz : ¬ op = 0 := fun h => by
    have := h0 h
    omega
  rcases g_cs (show i < 3 by omega) with rfl | rfl | rfl
  · obtain ⟨a1, a2, a3, a4, a5, a6, a7, a8, a9⟩ := q0
    refine .inl ⟨rfl, ?_⟩
    have e5 : (g0.2.1 + g0.2.2.1) / 2 = nI (M 0) := by rw [a2, a3]; exact hM2
    dsimp only [wp_Ga_middleStep]
    rw [e5]
    refine st_tc hd hM1 ho hn hp hcl wds (by rw [if_neg hz]) (fun sm' sc' st' => ?_)
    rw [← hV 0 hi]
    intro f ef
    subst ef
    exact w sm' sc' st'
  · obtain ⟨a1, a2, a3, a4, a5, a6, a7, a8, a9⟩ := q1
    refine .inr (.inl ⟨rfl, ?_⟩)
    have e5 : (g1.2.1 + g1.2.2.1) / 2 = nI (M 1) := by rw [a2, a3]; exact hM2
    dsimp only [wp_Ga_middleStep]
    rw [e5]
    refine st_tc hd hM1 ho hn hp hcl wds (by rw [if_neg hz]) (fun sm' sc' st' => ?_)
    rw [← hV 1 hi]
    intro f ef
    subst ef
    exact w sm' sc' st'
  · obtain ⟨a1, a2, a3, a4, a5, a6, a7, a8, a9⟩ := q2
    refine .inr (.inr ⟨rfl, ?_⟩)
    have e5 : (g2.2.1 + g2.2.2.1) / 2 = nI (M 2) := by rw [a2, a3]; exact hM2
    dsimp only [wp_Ga_middleStep]
    rw [e5]
    refine st_tc hd hM1 ho hn hp hcl wds (by rw [if_neg hz]) (fun sm' sc' st' => ?_)
    rw [← hV 2 hi]
    intro f ef
    subst ef
    exact w sm' sc' st'
theorem st_mpost {post : Int64 → (ct_Mo × (Nat → Int32) × (Nat → Int32) × (Nat → Int32) × (Nat → Int32) × (Nat → Int32) × (Nat → Int32) × (Nat → Int32) × (Nat → Int32) × (Nat → Int64) × (Nat → Int32) × (Nat → Int32) × (Nat → Int64)) → Prop} {thr str pot cnt blk op asr stp wds at' gc : Int32} {trc htr base clm k2 : Int64} {ops ag ws rl hd lo hi mf dl ru : Nat → Int32} {md mt : Nat → Int64} {k : Int32} (M : Nat → Nat) {G : Nat} (hG : gc = nI G) (G3 : G ≤ 3) (h0 : op = 0 → G = 0) (hM : ∀ i, i < G → M i < 2 ^ 31 ∧ (lo i + hi i) / 2 = nI (M i)) (V : Nat → Int64) (hV : ∀ i, i < G → V i = cv (spn ops ag ws cnt wds (M i) (hk rl hd) trc).1 (spn ops ag ws cnt wds (M i) (hk rl hd) trc).2) (ho : ∀ i, vp_in (ops i) 14) (hn : cnt ≤ 60) (hp : vp_in (rl 0) 16)
    (P : (¬ ∃ i, i < G ∧ k = nI i) → post 0 ((1, str, pot, cnt, blk, trc, htr, base, op, asr, stp, wds, at', clm, gc), ops, ag, ws, rl, hd, lo, hi, mf, md, dl, ru, mt))
    (S : ∀ i, i < G → k = nI i → ¬ dv (lo i) (hi i) (mf i) (ru i) = 1 → post 0 ((2, str, pot, cnt, blk, trc, htr, base, op, asr, stp, wds, at', clm, gc), ops, ag, ws, rl, hd, lo, hi, mf, md, dl, ru, mt))
    (O : ∀ i, i < G → k = nI i → dv (lo i) (hi i) (mf i) (ru i) = 1 → ∀ t' hd' mt', post (V i ^^^ k2) ((0, str, pot, cnt, blk, trc, t', base, op, asr, stp, wds, at', clm, gc), ops, ag, ws, rl, hd', lo, hi, upd mf i 1, vp_updL md i (V i ^^^ k2), upd dl i (blk + 4), ru, mt')) :
    wp_Mo_post post ((thr, str, pot, cnt, blk, trc, htr, base, op, asr, stp, wds, at', clm, gc), ops, ag, ws, rl, hd, lo, hi, mf, md, dl, ru, mt) k k2 := by
  refine st_misG hG G3 h0 (fun h => ⟨fun _ => P h, fun h => absurd rfl h⟩) (fun i hi e => ⟨fun h => absurd h (by decide), fun _ => ?_⟩)
  subst e
  have hv : vp_in (nI i) 3 := vp_in_nI (by omega) (by decide)
  obtain ⟨hM1, hM2⟩ := hM i hi
  have hz : ¬ op = 0 := fun h => by
    have := h0 h
    omega
  refine st_due (by omega) ⟨fun ed => ⟨hv, hv, ?_⟩, fun ed => S i hi rfl ed⟩
  have w := O i hi rfl ed
  rw [nI_clamp (by omega)]
  show wp_Mo_trueCommitment _ _ ((lo i + _) / 2)
  rw [hM2]
  refine st_mtc hM1 ho hn hp wds (by rw [if_neg hz]) (fun t' hd' mt' => ?_)
  rw [← hV i hi]
  intro f ef
  subst ef
  refine ⟨hv, hv, fun f2 ef2 => ⟨hv, hv, ?_⟩⟩
  subst ef2
  rw [pk_uLs]
  exact w t' hd' mt'
/-! pick and draw -/
def pg (g : ct_Ga) (k2 blk : Int32) : ct_Ga := if k2 = 0 then (g.1, (g.2.1 + g.2.2.1) / 2, g.2.2.1, g.2.2.2.2.2.1, g.2.2.2.2.1, 0, 0, blk + 4, g.2.2.2.2.2.2.2.2) else (g.1, g.2.1, (g.2.1 + g.2.2.1) / 2, g.2.2.2.1, g.2.2.2.2.2.1, 0, 0, blk + 4, g.2.2.2.2.2.2.2.2)
theorem st_halve {post : ct_Ga → Prop} {g : ct_Ga} {k2 blk : Int32} (Q : post (pg g k2 blk)) : wp_Ga_halve (fun u5 => wp_Ga_setDeadline post u5 blk) g k2 := by
  refine ⟨fun e f ef => ?_, fun e f ef => ?_⟩
  · subst ef
    rw [pg, if_pos e] at Q
    exact Q
  · subst ef
    rw [pg, if_neg e] at Q
    exact Q
theorem st_pick {post : Int32 → (ct_Sc × ct_Ga × ct_Ga × ct_Ga) → Prop} {px : String → (ct_Sc × ct_Ga × ct_Ga × ct_Ga) → Prop} {gc pot blk : Int32} {base : Int64} {g0 g1 g2 : ct_Ga} {k k2 : Int32} {ch lo hi mf dl ru : Nat → Int32} {lc hc md : Nat → Int64} {G : Nat} (hG : gc = nI G) (G3 : G ≤ 3) (q0 : gq g0 ch lo hi mf dl ru lc hc md 0) (q1 : gq g1 ch lo hi mf dl ru lc hc md 1) (q2 : gq g2 ch lo hi mf dl ru lc hc md 2) (hm : ∀ i, i < G → ¬ ru i = 0 → ¬ mf i = 0 → 1 < hi i - lo i)
    (P : (¬ ∃ i, i < G ∧ k = nI i) → px "java/lang/IndexOutOfBoundsException" ((gc, pot, blk, base), g0, g1, g2))
    (S : ∀ i, i < G → k = nI i → ¬ dv (lo i) (hi i) (mf i) (ru i) = 2 → px "java/lang/IllegalStateException" ((gc, pot, blk, base), g0, g1, g2))
    (O0 : 0 < G → k = 0 → dv (lo 0) (hi 0) (mf 0) (ru 0) = 2 → post ((pg g0 k2 blk).2.2.1 - (pg g0 k2 blk).2.1) ((gc, pot, blk, base), pg g0 k2 blk, g1, g2))
    (O1 : 1 < G → k = 1 → dv (lo 1) (hi 1) (mf 1) (ru 1) = 2 → post ((pg g1 k2 blk).2.2.1 - (pg g1 k2 blk).2.1) ((gc, pot, blk, base), g0, pg g1 k2 blk, g2))
    (O2 : 2 < G → k = 2 → dv (lo 2) (hi 2) (mf 2) (ru 2) = 2 → post ((pg g2 k2 blk).2.2.1 - (pg g2 k2 blk).2.1) ((gc, pot, blk, base), g0, g1, pg g2 k2 blk)) :
    wp_Sc_pick post px ((gc, pot, blk, base), g0, g1, g2) k k2 := by
  refine st_gwd hG G3 q0 q1 q2 hm P S (fun i hi e ed => ?_)
  rcases g_cs (show i < 3 by omega) with rfl | rfl | rfl
  · exact .inl ⟨rfl, st_halve (O0 hi e ed)⟩
  · exact .inr (.inl ⟨rfl, st_halve (O1 hi e ed)⟩)
  · exact .inr (.inr ⟨rfl, st_halve (O2 hi e ed)⟩)
theorem st_mpick {post : Int32 → (ct_Mo × (Nat → Int32) × (Nat → Int32) × (Nat → Int64) × (Nat → Int64) × (Nat → Int32) × (Nat → Int64) × (Nat → Int32) × (Nat → Int32)) → Prop} {thr str pot cnt blk op asr stp wds at' gc : Int32} {trc htr base clm : Int64} {lo hi mf dl ru : Nat → Int32} {lc hc md : Nat → Int64} {k k2 : Int32} {G : Nat} (hG : gc = nI G) (G3 : G ≤ 3) (h0 : op = 0 → G = 0)
    (P : (¬ ∃ i, i < G ∧ k = nI i) → post 0 ((1, str, pot, cnt, blk, trc, htr, base, op, asr, stp, wds, at', clm, gc), lo, hi, lc, hc, mf, md, dl, ru))
    (S : ∀ i, i < G → k = nI i → ¬ dv (lo i) (hi i) (mf i) (ru i) = 2 → post 0 ((2, str, pot, cnt, blk, trc, htr, base, op, asr, stp, wds, at', clm, gc), lo, hi, lc, hc, mf, md, dl, ru))
    (Z : ∀ i, i < G → k = nI i → dv (lo i) (hi i) (mf i) (ru i) = 2 → k2 = 0 → post (hi i - (lo i + hi i) / 2) ((0, str, pot, cnt, blk, trc, htr, base, op, asr, stp, wds, at', clm, gc), upd lo i ((lo i + hi i) / 2), hi, vp_updL lc i (md i), hc, upd mf i 0, vp_updL md i 0, upd dl i (blk + 4), ru))
    (O : ∀ i, i < G → k = nI i → dv (lo i) (hi i) (mf i) (ru i) = 2 → ¬ k2 = 0 → post ((lo i + hi i) / 2 - lo i) ((0, str, pot, cnt, blk, trc, htr, base, op, asr, stp, wds, at', clm, gc), lo, upd hi i ((lo i + hi i) / 2), lc, vp_updL hc i (md i), upd mf i 0, vp_updL md i 0, upd dl i (blk + 4), ru)) :
    wp_Mo_pick post ((thr, str, pot, cnt, blk, trc, htr, base, op, asr, stp, wds, at', clm, gc), lo, hi, lc, hc, mf, md, dl, ru) k k2 := by
  refine st_misG hG G3 h0 (fun h => ⟨fun _ => P h, fun h => absurd rfl h⟩) (fun i hi' e => ⟨fun h => absurd h (by decide), fun _ => ?_⟩)
  subst e
  have hv : vp_in (nI i) 3 := vp_in_nI (by omega) (by decide)
  refine st_due (by omega) ⟨fun ed => ⟨hv, hv, fun y9 e9 => ?_⟩, fun ed => S i hi' rfl ed⟩
  rw [nI_clamp (by omega)] at e9 ⊢
  subst e9
  refine ⟨fun ek => ⟨hv, hv, fun f ef => ⟨hv, hv, hv, fun f2 ef2 => ⟨hv, hv, hv, ?_⟩⟩⟩, fun ek => ⟨hv, hv, fun f ef => ⟨hv, hv, hv, fun f2 ef2 => ⟨hv, hv, hv, ?_⟩⟩⟩⟩
  · subst ef; subst ef2
    rw [pk_us]
    exact Z i hi' rfl ed ek
  · subst ef; subst ef2
    rw [pk_us]
    exact O i hi' rfl ed ek
theorem lg_eq {x y : Int64} : lg_cmp x y = 0 ↔ x = y := by
  unfold lg_cmp
  split
  · rename_i h
    refine ⟨fun h => absurd h (by decide), fun h2 => ?_⟩
    subst h2
    exact absurd (Int64.lt_iff_toInt_lt.mp h) (by omega)
  · rename_i h
    split
    · rename_i h2
      exact ⟨fun _ => h2, fun _ => rfl⟩
    · rename_i h2
      exact ⟨fun h => absurd h (by decide), fun h => absurd h h2⟩
theorem k_30 {k x : Int32} (h0 : ¬ k < 0) (h : k < x) (hx : vp_in x 31) : vp_in k 30 := by
  rw [vp_in_iff] at hx ⊢
  rw [i32_lt, Int32.toInt_zero] at h0
  rw [i32_lt] at h
  omega
theorem st_draw {post : Int32 → (ct_Sc × (Nat → Int32) × ct_Ma × (Nat → Int32) × (Nat → Int64) × ct_Pa × (Nat → Int32) × (Nat → Int32) × (Nat → Int32)) → Prop} {px : String → (ct_Sc × (Nat → Int32) × ct_Ma × (Nat → Int32) × (Nat → Int64) × ct_Pa × (Nat → Int32) × (Nat → Int32) × (Nat → Int32)) → Prop} {gc pot blk : Int32} {base trc : Int64} {b rl c pto pam drn : Nat → Int32} {t1 : Nat → Int64} {k : Int32} (hd : Nat → Int32) (V : Int64) (hV : V = cv (hk rl hd) trc) (h4 : vp_in (rl 4) 31) (hc : ∀ i, i < 8 → c i = rl (5 + i)) (hto : ∀ i, vp_in (pto i) 4)
    (P : (k < 0 ∨ ¬ k < rl 4) → px "java/lang/IndexOutOfBoundsException" ((gc, pot, blk, base), b, mm rl trc, c, t1, rl 4, pto, pam, drn))
    (S : ¬ k < 0 → k < rl 4 → ¬ drn k.toNatClampNeg = 0 → px "java/lang/IllegalStateException" ((gc, pot, blk, base), b, mm rl trc, c, t1, rl 4, pto, pam, drn))
    (S2 : ¬ k < 0 → k < rl 4 → drn k.toNatClampNeg = 0 → ¬ base = V → ∀ t', px "java/lang/IllegalStateException" ((gc, pot, blk, base), b, mm rl trc, c, t', rl 4, pto, pam, drn))
    (A : ¬ k < 0 → k < rl 4 → drn k.toNatClampNeg = 0 → base = V → ¬ 1 ≤ pam k.toNatClampNeg → ∀ t', px "java/lang/IllegalArgumentException" ((gc, pot, blk, base), b, mm rl trc, c, t', rl 4, pto, pam, drn))
    (U : ¬ k < 0 → k < rl 4 → drn k.toNatClampNeg = 0 → base = V → 1 ≤ pam k.toNatClampNeg → ¬ pam k.toNatClampNeg ≤ pot → ∀ t', px "java/lang/UnsupportedOperationException" ((gc, pot, blk, base), b, mm rl trc, c, t', rl 4, pto, pam, drn))
    (O : ¬ k < 0 → k < rl 4 → drn k.toNatClampNeg = 0 → base = V → 1 ≤ pam k.toNatClampNeg → pam k.toNatClampNeg ≤ pot → ∀ t', post (pam k.toNatClampNeg) ((gc, pot - pam k.toNatClampNeg, blk, base), upd b (pto k.toNatClampNeg).toNatClampNeg (b (pto k.toNatClampNeg).toNatClampNeg + pam k.toNatClampNeg), mm rl trc, c, t', rl 4, pto, pam, upd drn k.toNatClampNeg 1)) :
    wp_Sc_draw post px ((gc, pot, blk, base), b, mm rl trc, c, t1, rl 4, pto, pam, drn) k := by
  refine ⟨fun e => P (.inl e), fun e => ⟨fun e2 => ⟨k_30 e e2 h4, fun e3 => ?_, fun e3 => S e e2 e3⟩, fun e2 => P (.inr e2)⟩⟩
  have hv := k_30 e e2 h4
  show wp_Ma_commitment _ (mm rl trc, c, t1)
  rw [← hk_mm rl hd trc]
  refine st_cm (fun i hi => by rw [hk_i (by omega)]; exact hc i hi) (fun t' => ?_)
  rw [← hV, hk_mm]
  refine ⟨fun e4 => ⟨hv, fun y ey => ?_⟩, fun e4 => S2 e e2 e3 (fun h => e4 (lg_eq.mpr h)) t'⟩
  have e4 : base = V := lg_eq.mp e4
  have ey : y = pam k.toNatClampNeg := ey
  subst ey
  refine ⟨fun e5 => ⟨fun e6 => ⟨hv, fun f ef => ⟨hv, ?_⟩⟩, fun e6 => U e e2 e3 e4 e5 e6 t'⟩, fun e5 => A e e2 e3 e4 e5 t'⟩
  subst ef
  exact st_pay (hto _) (O e e2 e3 e4 e5 e6 t')
theorem st_mdraw {post : Int32 → (ct_Mo × (Nat → Int32) × (Nat → Int32) × (Nat → Int32) × (Nat → Int32) × (Nat → Int32) × (Nat → Int32) × (Nat → Int64)) → Prop} {thr str pot cnt blk op asr stp wds at' gc : Int32} {trc htr base clm : Int64} {b rl hd pto pam drn : Nat → Int32} {mt : Nat → Int64} {k : Int32} (V : Int64) (hV : V = cv (hk rl hd) trc) (h4 : vp_in (rl 4) 31) (hto : ∀ i, vp_in (pto i) 4)
    (P : (k < 0 ∨ ¬ k < rl 4) → post 0 ((1, str, pot, cnt, blk, trc, htr, base, op, asr, stp, wds, at', clm, gc), b, rl, hd, pto, pam, drn, mt))
    (S : ¬ k < 0 → k < rl 4 → ¬ drn k.toNatClampNeg = 0 → post 0 ((2, str, pot, cnt, blk, trc, htr, base, op, asr, stp, wds, at', clm, gc), b, rl, hd, pto, pam, drn, mt))
    (S2 : ¬ k < 0 → k < rl 4 → drn k.toNatClampNeg = 0 → ¬ base = V → ∀ m', post 0 ((2, str, pot, cnt, blk, trc, trc, base, op, asr, stp, wds, at', clm, gc), b, rl, hk rl hd, pto, pam, drn, m'))
    (A : ¬ k < 0 → k < rl 4 → drn k.toNatClampNeg = 0 → base = V → ¬ 1 ≤ pam k.toNatClampNeg → ∀ m', post 0 ((3, str, pot, cnt, blk, trc, trc, base, op, asr, stp, wds, at', clm, gc), b, rl, hk rl hd, pto, pam, drn, m'))
    (U : ¬ k < 0 → k < rl 4 → drn k.toNatClampNeg = 0 → base = V → 1 ≤ pam k.toNatClampNeg → ¬ pam k.toNatClampNeg ≤ pot → ∀ m', post 0 ((4, str, pot, cnt, blk, trc, trc, base, op, asr, stp, wds, at', clm, gc), b, rl, hk rl hd, pto, pam, drn, m'))
    (O : ¬ k < 0 → k < rl 4 → drn k.toNatClampNeg = 0 → base = V → 1 ≤ pam k.toNatClampNeg → pam k.toNatClampNeg ≤ pot → ∀ m', post (pam k.toNatClampNeg) ((0, str, pot - pam k.toNatClampNeg, cnt, blk, trc, trc, base, op, asr, stp, wds, at', clm, gc), upd b (pto k.toNatClampNeg).toNatClampNeg (b (pto k.toNatClampNeg).toNatClampNeg + pam k.toNatClampNeg), rl, hk rl hd, pto, pam, upd drn k.toNatClampNeg 1, m')) :
    wp_Mo_draw post ((thr, str, pot, cnt, blk, trc, htr, base, op, asr, stp, wds, at', clm, gc), b, rl, hd, pto, pam, drn, mt) k := by
  refine ⟨fun e => P (.inl e), fun e => ⟨fun e2 => ⟨k_30 e e2 h4, fun e3 => ?_, fun e3 => S e e2 e3⟩, fun e2 => P (.inr e2)⟩⟩
  have hv := k_30 e e2 h4
  refine pu_Mo_take (st_mcm (h := hk rl hd) (fun m' => ?_))
  show (lg_cmp base (cv (hk rl hd) trc) = 0 → _) ∧ (¬ lg_cmp base (cv (hk rl hd) trc) = 0 → _)
  rw [← hV]
  refine ⟨fun e4 => ⟨hv, ?_⟩, fun e4 => S2 e e2 e3 (fun h => e4 (lg_eq.mpr h)) m'⟩
  have e4 : base = V := lg_eq.mp e4
  refine ⟨fun e5 => ⟨hv, fun e6 => ⟨hv, hv, fun f ef => ⟨hv, fun y ey => ?_⟩⟩, fun e6 => U e e2 e3 e4 e5 e6 m'⟩, fun e5 => A e e2 e3 e4 e5 m'⟩
  have ey : y = pto k.toNatClampNeg := ey
  subst ef; subst ey
  refine ⟨hto _, hv, fun f ef => ⟨hto _, hv, ?_⟩⟩
  subst ef
  exact O e e2 e3 e4 e5 e6 m'
/-! proofs: siblings, roots, commitments -/
theorem tr_ei {c d : Nat → Int32} (h : ∀ i, i < 8 → c i = d i) (x y : Nat → Int64) : ∀ i, 1 ≤ i → i < 16 → tr c x i = tr d y i := by
  have h0 := h 0 (by omega)
  have h1 := h 1 (by omega)
  have h2 := h 2 (by omega)
  have h3 := h 3 (by omega)
  have h4 := h 4 (by omega)
  have h5 := h 5 (by omega)
  have h6 := h 6 (by omega)
  have h7 := h 7 (by omega)
  intro i hi hi2
  rcases (show i = 1 ∨ i = 2 ∨ i = 3 ∨ i = 4 ∨ i = 5 ∨ i = 6 ∨ i = 7 ∨ i = 8 ∨ i = 9 ∨ i = 10 ∨ i = 11 ∨ i = 12 ∨ i = 13 ∨ i = 14 ∨ i = 15 by omega) with r | r | r | r | r | r | r | r | r | r | r | r | r | r | r <;> subst r <;> simp [tr, nd, lf, vp_updL, h0, h1, h2, h3, h4, h5, h6, h7]
def si (j v : Nat) : Nat := ((8 + j) >>> v) ^^^ 1
theorem si_in : ∀ j, j < 8 → ∀ v, v < 3 → 1 ≤ si j v ∧ si j v < 16 := by decide
theorem si_c : ∀ j, j < 8 → ∀ v, v < 3 → ((8 + nI j) >>> (nI v &&& 31)) ^^^ 1 = nI (si j v) := by decide +kernel
theorem si_m : ∀ j, j < 8 → ∀ v, v < 3 → nI ((8 + j) >>> v) ^^^ 1 = nI (si j v) := by decide +kernel
theorem si_h : ∀ j, j < 8 → ∀ v, v < 3 → nI ((8 + j) >>> v) / 2 = nI ((8 + j) >>> (v + 1)) := by decide +kernel
def sbv (h : Nat → Int32) (j v : Nat) : Int64 := tr (fun i => h (5 + i)) (fun _ => 0) (si j v)
def rt1 (j v : Int32) (P acc : Int64) : Int64 := if ((j >>> (v &&& 31)) &&& 1) = 1 then mp P acc else mp acc P
def rt3 (j : Int32) (P : Nat → Int64) (x : Int64) : Int64 := rt1 j 2 (P 2) (rt1 j 1 (P 1) (rt1 j 0 (P 0) x))
def cp (h : Nat → Int32) (t : Int64) (P : Nat → Int64) (j : Int32) : Int64 := wh (h 0).toInt64 (h 1).toInt64 (h 2).toInt64 (h 3).toInt64 (h 4).toInt64 t (rt3 j P (mx 1 (h (5 + j.toNatClampNeg)).toInt64))
theorem st_prc {post : Int64 → (ct_Pr × ct_Ma × (Nat → Int32) × (Nat → Int64)) → Prop} {val j : Int32} {h pc : Nat → Int32} {t : Int64} {pj P : Nat → Int64} (hj : vp_in j 8) (hc : pc j.toNatClampNeg = h (5 + j.toNatClampNeg)) (hP : ∀ v, v < 3 → pj v = P v) (V : Int64) (hV : V = cp h t P j) (Q : post V ((val, j), mm h t, pc, pj)) : wp_Pr_commitment post ((val, j), mm h t, pc, pj) := by
  refine ⟨hj, pu_Mi_mixLeaf ⟨4, ?_⟩⟩
  have p0 := hP 0 (by omega)
  have p1 := hP 1 (by omega)
  have p2 := hP 2 (by omega)
  have F : wp_Ma_commitmentWith (fun r20 u21 => post r20 ((val, j), u21, pc, pj)) (mm h t) (rt3 j P (mx 1 (h (5 + j.toNatClampNeg)).toInt64)) := by
    refine pu_Ma_cw ?_
    show post (cp h t P j) _
    rw [← hV]
    exact Q
  have L3 : ∀ n x, rt3 j P (mx 1 (h (5 + j.toNatClampNeg)).toInt64) = x → wl_Pr_commitment_18 post ((val, j), mm h t, pc, pj) (n + 1) (nI 3) x := by
    intro n x e
    subst e
    exact ⟨fun _ => F, fun hn => absurd (by decide) hn⟩
  have ST : ∀ (v : Nat) (n : Nat) (x : Int64), v < 3 → wl_Pr_commitment_18 post ((val, j), mm h t, pc, pj) n (nI (v + 1)) (rt1 j (nI v) (P v) x) → wl_Pr_commitment_18 post ((val, j), mm h t, pc, pj) (n + 1) (nI v) x := by
    intro v n x hv w
    have hvv : vp_in (nI v) 3 := vp_in_nI hv (by decide)
    rw [← nI_1] at w
    refine ⟨fun hn => absurd hn (nI_ge (b := 3) hv (by decide)), fun _ => ⟨fun e => ⟨hvv, pu_Mi_mixPair ?_⟩, fun e => ⟨hvv, pu_Mi_mixPair ?_⟩⟩⟩
    · rw [rt1, if_pos e, ← hP v hv] at w
      rw [nI_clamp (by omega)]
      exact w
    · rw [rt1, if_neg e, ← hP v hv] at w
      rw [nI_clamp (by omega)]
      exact w
  show wl_Pr_commitment_18 post ((val, j), mm h t, pc, pj) 4 (nI 0) (mx 1 (pc j.toNatClampNeg).toInt64)
  rw [hc]
  exact ST 0 3 _ (by omega) (ST 1 2 _ (by omega) (ST 2 1 _ (by omega) (L3 0 _ rfl)))
theorem st_take {post : (ct_Pr × ct_Ma × (Nat → Int32) × (Nat → Int64) × ct_Ma × (Nat → Int32) × (Nat → Int64)) → Prop} {pr : ct_Pr} {pm : ct_Ma} {pcl sc h : Nat → Int32} {pj st : Nat → Int64} {t : Int64} (hc : ∀ i, i < 8 → sc i = h (5 + i)) (Q : ∀ j pcl' pj' st', j < 8 → h 2 &&& 7 = nI j → (∀ i, i < 8 → pcl' i = h (5 + i)) → (∀ v, v < 3 → pj' v = sbv h j v) → post ((h (5 + j), pr.2), mm h t, pcl', pj', mm h t, sc, st')) : wp_Pr_takeFrom post (pr, pm, pcl, pj, mm h t, sc, st) := by
  obtain ⟨j, hj, ej, ec, e5, hv⟩ := y9_cl (h 2)
  refine ⟨hv, fun f ef => pu_Ma_growTree ⟨4, ?_⟩⟩
  have ef : f = h (5 + j) := by
    have ef : f = sc (h 2 &&& 7).toNatClampNeg := ef
    rw [ef, ec, hc j hj]
  subst ef
  have T : ∀ v, v < 3 → tr sc st (si j v) = sbv h j v := fun v hv => tr_ei hc st (fun _ => 0) _ (si_in j hj v hv).1 (si_in j hj v hv).2
  have q := Q j (va_cpy sc pcl 0 0 8) (vp_updL (vp_updL (vp_updL pj 0 (sbv h j 0)) 1 (sbv h j 1)) 2 (sbv h j 2)) (tr sc st) hj ej (fun i hi => by rw [pk_cpy_in (by omega) (by omega), ← hc i hi]; simp) (fun v hv => by
    rcases g_cs hv with rfl | rfl | rfl <;> simp [vp_updL])
  have S : ∀ (v n : Nat) (x : Nat → Int64), v < 3 → wl_Pr_takeFrom_29 post (pr, pm, pcl, pj, mm h t, sc, st) (mm h t, va_cpy sc pcl 0 0 8, mm h t, sc) (h 2 &&& 7) (h (5 + j)) (mm h t, sc, tr sc st) n (nI (v + 1)) (vp_updL x v (sbv h j v)) → wl_Pr_takeFrom_29 post (pr, pm, pcl, pj, mm h t, sc, st) (mm h t, va_cpy sc pcl 0 0 8, mm h t, sc) (h 2 &&& 7) (h (5 + j)) (mm h t, sc, tr sc st) (n + 1) (nI v) x := by
    intro v n x hv w
    rw [← nI_1] at w
    refine ⟨fun hn => absurd hn (nI_ge (b := 3) hv (by decide)), fun _ => ?_⟩
    rw [ej, si_c j hj v hv]
    refine ⟨vp_in_nI (si_in j hj v hv).2 (by decide), fun f ef => ⟨vp_in_nI hv (by decide), ?_⟩⟩
    rw [nI_clamp (show si j v < 2 ^ 31 from Nat.lt_trans (si_in j hj v hv).2 (by decide))] at ef
    have ef : f = sbv h j v := ef.trans (T v hv)
    rw [nI_clamp (by omega), ef]
    rw [ej] at w
    exact w
  refine S 0 3 pj (by omega) (S 1 2 _ (by omega) (S 2 1 _ (by omega) ?_))
  exact ⟨fun _ => q, fun hn => absurd (by decide) hn⟩
/-! a proof altered and tried: the class's side -/
def aH (h : Nat → Int32) (k k3 : Int32) : Nat → Int32 := fun i => if (i = 0 ∧ k = 1) ∨ (i = 1 ∧ k = 2) ∨ (i = 2 ∧ k = 3) ∨ (i = 3 ∧ k = 4) ∨ (i = 4 ∧ k = 5) then h i ^^^ k3 else h i
def aT (t : Int64) (k k3 : Int32) : Int64 := if k = 6 then t ^^^ k3.toInt64 else t
def aV (v k k3 : Int32) : Int32 := if k = 7 then v ^^^ k3 else v
def aP (P : Nat → Int64) (k k3 : Int32) : Nat → Int64 := fun v => if (v = 0 ∧ k = 8) ∨ (v = 1 ∧ k = 9) ∨ (v = 2 ∧ k = 10) then P v ^^^ k3.toInt64 else P v
theorem p7_in (x : Int32) : vp_in (x &&& 7) 8 := pk_andIn x 3 (by decide) (by decide)
theorem k_cs {k : Int32} (h0 : ¬ k < 0) (h : k ≤ 10) : k = 0 ∨ k = 1 ∨ k = 2 ∨ k = 3 ∨ k = 4 ∨ k = 5 ∨ k = 6 ∨ k = 7 ∨ k = 8 ∨ k = 9 ∨ k = 10 := by
  obtain ⟨j, hj, e⟩ := nI_of2 (M := 10) (n := 10) (by decide) h0 h
  rcases (show j = 0 ∨ j = 1 ∨ j = 2 ∨ j = 3 ∨ j = 4 ∨ j = 5 ∨ j = 6 ∨ j = 7 ∨ j = 8 ∨ j = 9 ∨ j = 10 by omega) with r | r | r | r | r | r | r | r | r | r | r <;> subst r <;> subst e <;> decide
theorem w3_0 : vp_in (0 : Int32) 3 := show ¬ ((0 : Int32) < 0 ∨ 3 ≤ (0 : Int32).toNatClampNeg) by decide
theorem w3_1 : vp_in (1 : Int32) 3 := show ¬ ((1 : Int32) < 0 ∨ 3 ≤ (1 : Int32).toNatClampNeg) by decide
theorem w3_2 : vp_in (2 : Int32) 3 := show ¬ ((2 : Int32) < 0 ∨ 3 ≤ (2 : Int32).toNatClampNeg) by decide
theorem st_alter {post : (ct_Pr × ct_Ma × (Nat → Int32) × (Nat → Int64)) → Prop} {val x k k3 : Int32} {h pcl : Nat → Int32} {t : Int64} {pj : Nat → Int64} (h0 : ¬ k < 0) (h10 : k ≤ 10) (Q : ∀ pj', (∀ v, v < 3 → pj' v = aP pj k k3 v) → post ((aV val k k3, aH h k k3 2 &&& 7), mm (aH h k k3) (aT t k k3), upd pcl (aH h k k3 2 &&& 7).toNatClampNeg (aV val k k3), pj')) : wp_Pr_alter post ((val, x), mm h t, pcl, pj) k k3 := by
  have hv := p7_in (h 2)
  have hv3 := p7_in (h 2 ^^^ k3)
  rcases k_cs h0 h10 with e | e | e | e | e | e | e | e | e | e | e <;> subst e
  · have q := Q pj (fun v hv => by simp [aP])
    simp [aH, aT, aV, mm] at q
    simpa [wp_Pr_alter, wp_Pr_alterOther, wp_Ma_cellPlace, hv] using q
  · have q := Q pj (fun v hv => by simp [aP])
    simp [aH, aT, aV, mm] at q
    simpa [wp_Pr_alter, wp_Pr_alterOther, wp_Ma_cellPlace, hv] using q
  · have q := Q pj (fun v hv => by simp [aP])
    simp [aH, aT, aV, mm] at q
    simpa [wp_Pr_alter, wp_Pr_alterOther, wp_Ma_cellPlace, hv] using q
  · have q := Q pj (fun v hv => by simp [aP])
    simp only [aH, aT, aV, mm] at q
    simp only [wp_Pr_alter, wp_Pr_alterOther, wp_Ma_cellPlace]
    simpa [hv3] using q
  · have q := Q pj (fun v hv => by simp [aP])
    simp [aH, aT, aV, mm] at q
    simpa [wp_Pr_alter, wp_Pr_alterOther, wp_Ma_cellPlace, hv] using q
  · have q := Q pj (fun v hv => by simp [aP])
    simp [aH, aT, aV, mm] at q
    simpa [wp_Pr_alter, wp_Pr_alterOther, wp_Ma_cellPlace, hv] using q
  · have q := Q pj (fun v hv => by simp [aP])
    simp [aH, aT, aV, mm] at q
    simpa [wp_Pr_alter, wp_Pr_alterOther, wp_Ma_cellPlace, hv] using q
  · have q := Q pj (fun v hv => by simp [aP])
    simp [aH, aT, aV, mm] at q
    simpa [wp_Pr_alter, wp_Pr_alterOther, wp_Ma_cellPlace, hv] using q
  · have q := Q (vp_updL pj 0 (pj 0 ^^^ k3.toInt64)) (fun v hv => by rcases g_cs hv with rfl | rfl | rfl <;> simp [aP, vp_updL])
    simp [aH, aT, aV, mm] at q
    simpa [wp_Pr_alter, wp_Pr_alterOther, wp_Ma_cellPlace, hv, w3_0] using q
  · have q := Q (vp_updL pj 1 (pj 1 ^^^ k3.toInt64)) (fun v hv => by rcases g_cs hv with rfl | rfl | rfl <;> simp [aP, vp_updL])
    simp [aH, aT, aV, mm] at q
    simpa [wp_Pr_alter, wp_Pr_alterOther, wp_Ma_cellPlace, hv, w3_1] using q
  · have q := Q (vp_updL pj 2 (pj 2 ^^^ k3.toInt64)) (fun v hv => by rcases g_cs hv with rfl | rfl | rfl <;> simp [aP, vp_updL])
    simp [aH, aT, aV, mm] at q
    simpa [wp_Pr_alter, wp_Pr_alterOther, wp_Ma_cellPlace, hv, w3_2] using q
def pv (V1 lc V2 hc : Int64) (p0 : Int32) : Int32 := if V1 = lc then (if p0 < 0 then 0 else if 16 ≤ p0 then 0 else if V2 = hc then 1 else 0) else 0
theorem v16_iff {k : Int32} : vp_in k 16 ↔ ¬ k < 0 ∧ ¬ 16 ≤ k := by
  rw [vp_in_iff, i32_lt, i32_le, Int32.toInt_zero, show (16 : Int32).toInt = 16 by decide]
  omega
theorem st_pl {post : Int32 → (ct_Sc × (Nat → Int32) × (Nat → Int32) × ct_In × (Nat → Int32) × ct_Pr × ct_Ma × (Nat → Int32) × (Nat → Int64) × ct_As) → Prop} {o : ct_Sc} {ops ag ws h pc : Nat → Int32} {cnt val j : Int32} {t lc hc : Int64} {pj P : Nat → Int64} {a : ct_As} (lim : Int32) (hl : a.2.2.2.2.1 = lim) (ho : ∀ i, vp_in (ops i) 14) (hn : cnt ≤ 60) (hj : vp_in j 8) (hpc : ∀ i, i < 8 → pc i = h (5 + i)) (hP : ∀ v, v < 3 → pj v = P v) (V1 V2 : Int64) (e1 : V1 = cp h t P j) (e2 : V2 = cp (sp ops ag ws cnt lim h t).1 (sp ops ag ws cnt lim h t).2 P j) (Q : ∀ pm' pc', post (pv V1 lc V2 hc (h 0)) (o, ops, ag, cnt, ws, (val, j), pm', pc', pj, a)) : wp_Sc_proofLeads post (o, ops, ag, cnt, ws, (val, j), mm h t, pc, pj, a) lc hc := by
  obtain ⟨i, hi, ei⟩ := vp_in_of hj (by decide)
  have ci : j.toNatClampNeg = i := by rw [ei, nI_clamp (by omega)]
  refine st_prc (h := h) hj (by rw [ci]; exact hpc i hi) hP V1 e1 ⟨fun q1 => ?_, fun q1 => ?_⟩
  · have q1 : V1 = lc := lg_eq.mp q1
    refine ⟨fun q2 => ⟨fun _ => ?_, fun h => absurd rfl h⟩, fun q2 => ⟨fun q3 => ⟨fun _ => ?_, fun h => absurd rfl h⟩, fun q3 => ⟨fun h => absurd h (by decide), fun _ => ?_⟩⟩⟩
    · have q2 : h 0 < 0 := q2
      rw [pv, if_pos q1, if_pos q2] at Q
      exact Q _ _
    · have q2 : ¬ h 0 < 0 := q2
      have q3 : 16 ≤ h 0 := q3
      rw [pv, if_pos q1, if_neg q2, if_pos q3] at Q
      exact Q _ _
    · have q2 : ¬ h 0 < 0 := q2
      have q3 : ¬ 16 ≤ h 0 := q3
      rw [pv, if_pos q1, if_neg q2, if_neg q3] at Q
      show wp_Ma_step _ (mm h t, pc, ops, ag, cnt, ws) a.2.2.2.2.1
      rw [hl]
      refine st_Ma ho hn (v16_iff.mpr ⟨q2, q3⟩) hpc (fun c' hc' => st_prc (h := (sp ops ag ws cnt lim h t).1) hj (by rw [ci]; exact hc' i hi) hP V2 e2 ⟨fun q4 => ?_, fun q4 => ?_⟩)
      · have q4 : V2 = hc := lg_eq.mp q4
        rw [if_pos q4] at Q
        exact Q _ _
      · have q4 : ¬ V2 = hc := fun e => q4 (lg_eq.mpr e)
        rw [if_neg q4] at Q
        exact Q _ _
  · have q1 : ¬ V1 = lc := fun e => q1 (lg_eq.mpr e)
    rw [pv, if_neg q1] at Q
    exact Q _ _
/-! a proof altered and tried: the reference's side -/
def tl (post : Int32 → (ct_Mo × (Nat → Int32) × (Nat → Int32) × (Nat → Int32) × (Nat → Int32) × (Nat → Int32) × (Nat → Int32) × (Nat → Int64) × (Nat → Int64) × (Nat → Int64) × (Nat → Int64)) → Prop) (u : (ct_Mo × (Nat → Int32) × (Nat → Int32) × (Nat → Int32) × (Nat → Int32) × (Nat → Int32) × (Nat → Int32) × (Nat → Int64) × (Nat → Int64) × (Nat → Int64) × (Nat → Int64))) (k1 : Int32) (u3 : ct_Mo × (Nat → Int32) × (Nat → Int32) × (Nat → Int32) × (Nat → Int32) × (Nat → Int32)) (u5 : ct_Mo × (Nat → Int32) × (Nat → Int64)) (x23 : Nat → Int64) (y27 : Int32) (x94 : Nat → Int32) (f125 : Int64) : Prop := (∀ y126 : Int32, y126 = ((x94 2) &&& 7) → (vp_in (5 + y126) 13 ∧ (wp_Mo_mix (fun r128 u129 => (wp_Mo_rootOf (fun r131 u132 => (wp_Mo_whole (fun r134 u135 => (vp_in k1 3 ∧ ((((lg_cmp r134 (u.2.2.2.2.2.2.2.1 k1.toNatClampNeg)) = 0 → (((((upd x94 (5 + y126).toNatClampNeg y27) 0) < 0 → (post 0 (u132.1, u3.2.1, u3.2.2.1, u3.2.2.2.1, u3.2.2.2.2.1, (upd x94 (5 + y126).toNatClampNeg y27), u.2.2.2.2.2.2.1, u.2.2.2.2.2.2.2.1, u.2.2.2.2.2.2.2.2.1, u5.2.2, u132.2))) ∧ (¬ ((upd x94 (5 + y126).toNatClampNeg y27) 0) < 0 → (((((upd x94 (5 + y126).toNatClampNeg y27) 0) ≤ 15 → (wp_Mo_step (fun u141 => (vp_in (5 + y126) 13 ∧ (wp_Mo_mix (fun r143 u144 => (wp_Mo_rootOf (fun r146 u147 => (wp_Mo_whole (fun r149 u150 => (vp_in k1 3 ∧ ((((lg_cmp r149 (u.2.2.2.2.2.2.2.2.1 k1.toNatClampNeg)) = 0 → (post 1 (u147.1, u141.2.1, u141.2.2.1, u141.2.2.2.1, u3.2.2.2.2.1, u141.2.2.2.2, u.2.2.2.2.2.2.1, u.2.2.2.2.2.2.2.1, u.2.2.2.2.2.2.2.2.1, u5.2.2, u147.2))) ∧ (¬ (lg_cmp r149 (u.2.2.2.2.2.2.2.2.1 k1.toNatClampNeg)) = 0 → (post 0 (u147.1, u141.2.1, u141.2.2.1, u141.2.2.2.1, u3.2.2.2.2.1, u141.2.2.2.2, u.2.2.2.2.2.2.1, u.2.2.2.2.2.2.2.1, u.2.2.2.2.2.2.2.2.1, u5.2.2, u147.2))))))) () ((u141.2.2.2.2 0).toInt64) ((u141.2.2.2.2 1).toInt64) ((u141.2.2.2.2 2).toInt64) ((u141.2.2.2.2 3).toInt64) ((u141.2.2.2.2 4).toInt64) u141.1.2.2.2.2.2.2.1 r146 )) (u141.1, u132.2) r143 y126 )) () 1 ((u141.2.2.2.2 (5 + y126).toNatClampNeg).toInt64) ))) (u132.1, u3.2.1, u3.2.2.1, u3.2.2.2.1, (upd x94 (5 + y126).toNatClampNeg y27)) u132.1.2.2.2.2.2.2.2.2.2.2.2.1 )) ∧ (¬ ((upd x94 (5 + y126).toNatClampNeg y27) 0) ≤ 15 → (post 0 (u132.1, u3.2.1, u3.2.2.1, u3.2.2.2.1, u3.2.2.2.2.1, (upd x94 (5 + y126).toNatClampNeg y27), u.2.2.2.2.2.2.1, u.2.2.2.2.2.2.2.1, u.2.2.2.2.2.2.2.2.1, u5.2.2, u132.2))))))))) ∧ (¬ (lg_cmp r134 (u.2.2.2.2.2.2.2.1 k1.toNatClampNeg)) = 0 → (post 0 (u132.1, u3.2.1, u3.2.2.1, u3.2.2.2.1, u3.2.2.2.2.1, (upd x94 (5 + y126).toNatClampNeg y27), u.2.2.2.2.2.2.1, u.2.2.2.2.2.2.2.1, u.2.2.2.2.2.2.2.2.1, u5.2.2, u132.2))))))) () (((upd x94 (5 + y126).toNatClampNeg y27) 0).toInt64) (((upd x94 (5 + y126).toNatClampNeg y27) 1).toInt64) (((upd x94 (5 + y126).toNatClampNeg y27) 2).toInt64) (((upd x94 (5 + y126).toNatClampNeg y27) 3).toInt64) (((upd x94 (5 + y126).toNatClampNeg y27) 4).toInt64) f125 r131 )) ((u5.1.1, u5.1.2.1, u5.1.2.2.1, u5.1.2.2.2.1, u5.1.2.2.2.2.1, u5.1.2.2.2.2.2.1, f125, u5.1.2.2.2.2.2.2.2.1, u5.1.2.2.2.2.2.2.2.2.1, u5.1.2.2.2.2.2.2.2.2.2.1, u5.1.2.2.2.2.2.2.2.2.2.2.1, u5.1.2.2.2.2.2.2.2.2.2.2.2.1, u5.1.2.2.2.2.2.2.2.2.2.2.2.2.1, u5.1.2.2.2.2.2.2.2.2.2.2.2.2.2.1, u5.1.2.2.2.2.2.2.2.2.2.2.2.2.2.2), x23) r128 y126 )) () 1 (y27.toInt64) )))
theorem a1_cs (x : Int32) : x &&& 1 = 0 ∨ x &&& 1 = 1 := by
  obtain ⟨j, hj, e⟩ := pk_andE x (m := 1) 1 (by decide)
  rcases (show j = 0 ∨ j = 1 by omega) with r | r <;> subst r
  · left; exact e
  · right; exact e
theorem st_root {post : Int64 → (ct_Mo × (Nat → Int64)) → Prop} {o : ct_Mo} {pj P : Nat → Int64} {x : Int64} {j : Int32} (hP : ∀ v, v < 3 → pj v = P v) (Q : post (rt3 j P x) (o, pj)) : wp_Mo_rootOf post (o, pj) x j := by
  have ST : ∀ (v : Nat) (n : Nat) (y : Int64), v < 3 → wl_Mo_rootOf_6 post (o, pj) j n (nI (v + 1)) (rt1 j (nI v) (P v) y) → wl_Mo_rootOf_6 post (o, pj) j (n + 1) (nI v) y := by
    intro v n y hv w
    have hvv : vp_in (nI v) 3 := vp_in_nI hv (by decide)
    rw [← nI_1] at w
    refine ⟨fun hn => absurd hn (nI_ge (b := 3) hv (by decide)), fun _ => ⟨fun e => ⟨hvv, pu_Mo_pair ?_⟩, fun e => ⟨hvv, pu_Mo_pair ?_⟩⟩⟩
    · rw [rt1, if_neg (fun q => by rw [e] at q; exact absurd q (by decide)), ← hP v hv] at w
      rw [nI_clamp (by omega)]
      exact w
    · rw [rt1, if_pos ((a1_cs _).resolve_left e), ← hP v hv] at w
      rw [nI_clamp (by omega)]
      exact w
  exact ⟨4, ST 0 3 _ (by omega) (ST 1 2 _ (by omega) (ST 2 1 _ (by omega) ⟨fun _ => Q, fun hn => absurd (by decide) hn⟩))⟩
theorem i15 {k : Int32} : k ≤ 15 ↔ ¬ 16 ≤ k := by
  rw [i32_le, i32_le, show (15 : Int32).toInt = 15 by decide, show (16 : Int32).toInt = 16 by decide]
  omega
theorem st_tl {post : Int32 → (ct_Mo × (Nat → Int32) × (Nat → Int32) × (Nat → Int32) × (Nat → Int32) × (Nat → Int32) × (Nat → Int32) × (Nat → Int64) × (Nat → Int64) × (Nat → Int64) × (Nat → Int64)) → Prop} {o o5 : ct_Mo} {ops ag ws rl hd hL lo x94 : Nat → Int32} {lc hc mt T x23 P : Nat → Int64} {mpth : Nat → Int64} {y27 lim : Int32} {f : Int64} {i : Nat} {u3o : ct_Mo} (i3 : i < 3) (ho : ∀ i, vp_in (ops i) 14) (hn : o5.2.2.2.1 ≤ 60) (hl : o5.2.2.2.2.2.2.2.2.2.2.2.1 = lim) (hP : ∀ v, v < 3 → x23 v = P v) (hA : Nat → Int32) (eA : hA = upd x94 (5 + (x94 2 &&& 7).toNatClampNeg) y27) (V1 V2 : Int64) (e1 : V1 = cp hA f P (x94 2 &&& 7)) (e2 : V2 = cp (sp ops ag ws o5.2.2.2.1 lim hA f).1 (sp ops ag ws o5.2.2.2.1 lim hA f).2 P (x94 2 &&& 7)) (Q : ∀ t' h', post (pv V1 (lc i) V2 (hc i) (hA 0)) (mo_h o5 t', ops, ag, ws, rl, h', lo, lc, hc, T, x23)) : tl post (o, ops, ag, ws, rl, hd, lo, lc, hc, mt, mpth) (nI i) (u3o, ops, ag, ws, rl, hL) (o5, hL, T) x23 y27 x94 f := by
  subst hl
  intro y ey
  have hv := y9_in (x94 2)
  have h3 : vp_in (nI i) 3 := vp_in_nI i3 (by decide)
  subst ey
  obtain ⟨j, hj, ej, ec, e5, hv8⟩ := y9_cl (x94 2)
  have g5 : hA (5 + j) = y27 := by
    rw [eA, ec]
    exact pk_us
  refine ⟨hv, pu_Mo_mix ?_⟩
  rw [e5]
  have eA' : hA = upd x94 (5 + j) y27 := by rw [eA, ec]
  rw [← eA']
  refine st_root hP ?_
  refine pu_Mo_whole ⟨h3, ?_⟩
  rw [nI_clamp (by omega)]
  have f1 : V1 = wh (hA 0).toInt64 (hA 1).toInt64 (hA 2).toInt64 (hA 3).toInt64 (hA 4).toInt64 f (rt3 (x94 2 &&& 7) P (mx 1 y27.toInt64)) := by
    rw [e1, cp, ec, g5]
  rw [← f1]
  refine ⟨fun q1 => ?_, fun q1 => ?_⟩
  · have q1 : V1 = lc i := lg_eq.mp q1
    refine ⟨fun q2 => ?_, fun q2 => ⟨fun q3 => ?_, fun q3 => ?_⟩⟩
    · rw [pv, if_pos q1, if_pos q2] at Q
      exact Q _ _
    · have q3 := i15.mp q3
      rw [pv, if_pos q1, if_neg q2, if_neg q3] at Q
      refine st_Mo (o := mo_h o5 f) ho hn (v16_iff.mpr ⟨q2, q3⟩) ⟨hv, pu_Mo_mix (st_root hP (pu_Mo_whole ⟨h3, ?_⟩))⟩
      have f2 : V2 = wh ((sp ops ag ws o5.2.2.2.1 o5.2.2.2.2.2.2.2.2.2.2.2.1 hA f).1 0).toInt64 ((sp ops ag ws o5.2.2.2.1 o5.2.2.2.2.2.2.2.2.2.2.2.1 hA f).1 1).toInt64 ((sp ops ag ws o5.2.2.2.1 o5.2.2.2.2.2.2.2.2.2.2.2.1 hA f).1 2).toInt64 ((sp ops ag ws o5.2.2.2.1 o5.2.2.2.2.2.2.2.2.2.2.2.1 hA f).1 3).toInt64 ((sp ops ag ws o5.2.2.2.1 o5.2.2.2.2.2.2.2.2.2.2.2.1 hA f).1 4).toInt64 (sp ops ag ws o5.2.2.2.1 o5.2.2.2.2.2.2.2.2.2.2.2.1 hA f).2 (rt3 (x94 2 &&& 7) P (mx 1 ((sp ops ag ws o5.2.2.2.1 o5.2.2.2.2.2.2.2.2.2.2.2.1 hA f).1 (5 + j)).toInt64)) := by
        rw [e2, cp, ec]
      dsimp only [mo_h]
      rw [← f2]
      refine ⟨fun q4 => ?_, fun q4 => ?_⟩
      · have q4 : V2 = hc i := lg_eq.mp q4
        rw [if_pos q4] at Q
        exact Q _ _
      · have q4 : ¬ V2 = hc i := fun e => q4 (lg_eq.mpr e)
        rw [if_neg q4] at Q
        exact Q _ _
    · have q3 : 16 ≤ hA 0 := by
        by_cases z : 16 ≤ hA 0
        · exact z
        · exact absurd (i15.mpr z) q3
      rw [pv, if_pos q1, if_neg q2, if_pos q3] at Q
      exact Q _ _
  · have q1 : ¬ V1 = lc i := fun e => q1 (lg_eq.mpr e)
    rw [pv, if_neg q1] at Q
    exact Q _ _
/-! the whole of a proof, in the reference -/
def pH (hL : Nat → Int32) (j : Nat) (k k3 : Int32) : Nat → Int32 := upd (aH hL k k3) (5 + (aH hL k k3 2 &&& 7).toNatClampNeg) (aV (hL (5 + j)) k k3)
theorem aH_v {h : Nat → Int32} {k k3 : Int32} {v : Nat} (hv : v < 5) : aH h k k3 v = if k = nI v + 1 then h v ^^^ k3 else h v := by
  rcases (show v = 0 ∨ v = 1 ∨ v = 2 ∨ v = 3 ∨ v = 4 by omega) with r | r | r | r | r <;> subst r
  · rw [show nI 0 + 1 = (1 : Int32) by decide]; simp [aH]
  · rw [show nI 1 + 1 = (2 : Int32) by decide]; simp [aH]
  · rw [show nI 2 + 1 = (3 : Int32) by decide]; simp [aH]
  · rw [show nI 3 + 1 = (4 : Int32) by decide]; simp [aH]
  · rw [show nI 4 + 1 = (5 : Int32) by decide]; simp [aH]
theorem aP_v {P : Nat → Int64} {k k3 : Int32} {v : Nat} (hv : v < 3) : aP P k k3 v = if k = 8 + nI v then P v ^^^ k3.toInt64 else P v := by
  rcases g_cs hv with r | r | r <;> subst r
  · rw [show 8 + nI 0 = (8 : Int32) by decide]; simp [aP]
  · rw [show 8 + nI 1 = (9 : Int32) by decide]; simp [aP]
  · rw [show 8 + nI 2 = (10 : Int32) by decide]; simp [aP]
def hv5 (h : Nat → Int32) (k k3 : Int32) (v : Nat) : Nat → Int32 := fun i => if i < v then aH h k k3 i else h i
theorem hv5_s {h : Nat → Int32} {k k3 : Int32} {v : Nat} : upd (hv5 h k k3 v) v (aH h k k3 v) = hv5 h k k3 (v + 1) := by
  funext i
  by_cases q : i = v
  · subst q; simp [upd, hv5]
  · have e : (i < v + 1) = (i < v) := propext (by omega)
    simp [upd, hv5, q, e]
theorem hv5_v {h : Nat → Int32} {k k3 : Int32} {v : Nat} : hv5 h k k3 v v = h v := by simp [hv5]
theorem hv5_5 {h : Nat → Int32} {k k3 : Int32} : hv5 h k k3 5 = aH h k k3 := by
  funext i
  by_cases q : i < 5
  · simp [hv5, q]
  · have q0 : ¬ i = 0 := by omega
    have q1 : ¬ i = 1 := by omega
    have q2 : ¬ i = 2 := by omega
    have q3 : ¬ i = 3 := by omega
    have q4 : ¬ i = 4 := by omega
    simp [hv5, q, aH, q0, q1, q2, q3, q4]
theorem st_118 {post : Int32 → (ct_Mo × (Nat → Int32) × (Nat → Int32) × (Nat → Int32) × (Nat → Int32) × (Nat → Int32) × (Nat → Int32) × (Nat → Int64) × (Nat → Int64) × (Nat → Int64) × (Nat → Int64)) → Prop} {u : (ct_Mo × (Nat → Int32) × (Nat → Int32) × (Nat → Int32) × (Nat → Int32) × (Nat → Int32) × (Nat → Int32) × (Nat → Int64) × (Nat → Int64) × (Nat → Int64) × (Nat → Int64))} {k1 k k3 : Int32} {u3 : ct_Mo × (Nat → Int32) × (Nat → Int32) × (Nat → Int32) × (Nat → Int32) × (Nat → Int32)} {u5 : ct_Mo × (Nat → Int32) × (Nat → Int64)} {x23 : Nat → Int64} {y27 : Int32} (Q : tl post u k1 u3 u5 x23 y27 (aH u5.2.1 k k3) (aT u5.1.2.2.2.2.2.2.1 k k3)) : ∀ n v, v + n = 5 → wl_Mo_proves_118 post u k1 k k3 u3 u5 x23 y27 (n + 1) (nI v) (hv5 u5.2.1 k k3 v) := by
  intro n
  induction n with
  | zero =>
    intro v hv
    have hv : v = 5 := by omega
    subst hv
    rw [hv5_5]
    refine ⟨fun _ => ⟨fun e f ef => ?_, fun e f ef => ?_⟩, fun hn => absurd (by decide) hn⟩
    · rw [aT, if_pos e, ← ef] at Q
      exact Q
    · have ef : f = u5.1.2.2.2.2.2.2.1 := by rw [ef]; simp
      rw [aT, if_neg e, ← ef] at Q
      exact Q
  | succ n ih =>
    intro v hv
    have w := ih (v + 1) (by omega)
    rw [← nI_1, ← hv5_s] at w
    have h13 : vp_in (nI v) 13 := vp_in_nI (by omega) (by decide)
    refine ⟨fun hn => absurd hn (nI_ge (b := 5) (by omega) (by decide)), fun _ => ⟨h13, ?_⟩⟩
    rw [nI_clamp (by omega), hv5_v]
    refine ⟨fun e f ef => ⟨h13, ?_⟩, fun e f ef => ⟨h13, ?_⟩⟩
    · rw [aH_v (by omega), if_pos e, ← ef] at w
      exact w
    · have ef : f = u5.2.1 v := by rw [ef]; simp
      rw [aH_v (by omega), if_neg e, ← ef] at w
      exact w
theorem st_118_1 {post : Int32 → (ct_Mo × (Nat → Int32) × (Nat → Int32) × (Nat → Int32) × (Nat → Int32) × (Nat → Int32) × (Nat → Int32) × (Nat → Int64) × (Nat → Int64) × (Nat → Int64) × (Nat → Int64)) → Prop} {u : (ct_Mo × (Nat → Int32) × (Nat → Int32) × (Nat → Int32) × (Nat → Int32) × (Nat → Int32) × (Nat → Int32) × (Nat → Int64) × (Nat → Int64) × (Nat → Int64) × (Nat → Int64))} {k1 k k3 : Int32} {u3 : ct_Mo × (Nat → Int32) × (Nat → Int32) × (Nat → Int32) × (Nat → Int32) × (Nat → Int32)} {u5 : ct_Mo × (Nat → Int32) × (Nat → Int64)} {x23 : Nat → Int64} {y27 : Int32} (Q : tl post u k1 u3 u5 x23 y27 (aH u5.2.1 k k3) (aT u5.1.2.2.2.2.2.2.1 k k3)) : ∀ n v, v + n = 5 → wl_Mo_proves_118_1 post u k1 k k3 u3 u5 x23 y27 (n + 1) (nI v) (hv5 u5.2.1 k k3 v) := by
  intro n
  induction n with
  | zero =>
    intro v hv
    have hv : v = 5 := by omega
    subst hv
    rw [hv5_5]
    refine ⟨fun _ => ⟨fun e f ef => ?_, fun e f ef => ?_⟩, fun hn => absurd (by decide) hn⟩
    · rw [aT, if_pos e, ← ef] at Q
      exact Q
    · have ef : f = u5.1.2.2.2.2.2.2.1 := by rw [ef]; simp
      rw [aT, if_neg e, ← ef] at Q
      exact Q
  | succ n ih =>
    intro v hv
    have w := ih (v + 1) (by omega)
    rw [← nI_1, ← hv5_s] at w
    have h13 : vp_in (nI v) 13 := vp_in_nI (by omega) (by decide)
    refine ⟨fun hn => absurd hn (nI_ge (b := 5) (by omega) (by decide)), fun _ => ⟨h13, ?_⟩⟩
    rw [nI_clamp (by omega), hv5_v]
    refine ⟨fun e f ef => ⟨h13, ?_⟩, fun e f ef => ⟨h13, ?_⟩⟩
    · rw [aH_v (by omega), if_pos e, ← ef] at w
      exact w
    · have ef : f = u5.2.1 v := by rw [ef]; simp
      rw [aH_v (by omega), if_neg e, ← ef] at w
      exact w
theorem st_proves {post : Int32 → (ct_Mo × (Nat → Int32) × (Nat → Int32) × (Nat → Int32) × (Nat → Int32) × (Nat → Int32) × (Nat → Int32) × (Nat → Int64) × (Nat → Int64) × (Nat → Int64) × (Nat → Int64)) → Prop} {thr str pot cnt blk op asr stp lim at' gc : Int32} {trc htr base clm : Int64} {ops ag ws rl hd lo : Nat → Int32} {lc hc mt mpth : Nat → Int64} {k k3 : Int32} {i A : Nat} (i3 : i < 3) (hA : A < 2 ^ 31) (hlo : lo i = nI A) (ho : ∀ i, vp_in (ops i) 14) (hn : cnt ≤ 60) (hp : vp_in (rl 0) 16) (hL : Nat → Int32) (tL : Int64) (eL : hL = (spn ops ag ws cnt lim A (hk rl hd) trc).1) (eT : tL = (spn ops ag ws cnt lim A (hk rl hd) trc).2) (j : Nat) (hj : j < 8) (ej : hL 2 &&& 7 = nI j) (V1 V2 : Int64) (e1 : V1 = cp (pH hL j k k3) (aT tL k k3) (aP (sbv hL j) k k3) (aH hL k k3 2 &&& 7)) (e2 : V2 = cp (sp ops ag ws cnt lim (pH hL j k k3) (aT tL k k3)).1 (sp ops ag ws cnt lim (pH hL j k k3) (aT tL k k3)).2 (aP (sbv hL j) k k3) (aH hL k k3 2 &&& 7)) (Q : ∀ t' h' m' p', post (pv V1 (lc i) V2 (hc i) (pH hL j k k3 0)) ((thr, str, pot, cnt, blk, trc, t', base, op, asr, stp, lim, at', clm, gc), ops, ag, ws, rl, h', lo, lc, hc, m', p')) : wp_Mo_proves post ((thr, str, pot, cnt, blk, trc, htr, base, op, asr, stp, lim, at', clm, gc), ops, ag, ws, rl, hd, lo, lc, hc, mt, mpth) (nI i) k k3 := by
  have h3 : vp_in (nI i) 3 := vp_in_nI i3 (by decide)
  have hp' : vp_in (hk rl hd 0) 16 := by rw [hk_i (by omega)]; exact hp
  refine ⟨h3, ?_⟩
  rw [nI_clamp (by omega)]
  show wp_Mo_after _ _ (lo i) lim
  rw [hlo]
  refine pu_Mo_take ⟨A + 1, ?_⟩
  refine st_after hA ho A 0 (hk rl hd) (thr, str, pot, cnt, blk, trc, trc, base, op, asr, stp, lim, at', clm, gc) (by omega) hn hp' ?_
  dsimp only [mo_h]
  rw [← eL, ← eT]
  refine pu_Mo_tree ?_
  intro y6 e6
  have e6 : y6 = nI ((8 + j) >>> 0) := by
    rw [e6]
    show 8 + (hL 2 &&& 7) = _
    rw [ej, nI_8a]
    rfl
  subst e6
  have T : ∀ v, v < 3 → tr (fun i => hL (5 + i)) mt (si j v) = sbv hL j v := fun v hv => tr_ei (fun _ _ => rfl) mt (fun _ => 0) _ (si_in j hj v hv).1 (si_in j hj v hv).2
  have e5 : (5 + (hL 2 &&& 7)).toNatClampNeg = 5 + j := by rw [ej, nI_5a, nI_clamp (by omega)]
  have FIN : ∀ x23 : Nat → Int64, (∀ v, v < 3 → x23 v = aP (sbv hL j) k k3 v) → ∀ n, wl_Mo_proves_35 post ((thr, str, pot, cnt, blk, trc, htr, base, op, asr, stp, lim, at', clm, gc), ops, ag, ws, rl, hd, lo, lc, hc, mt, mpth) (nI i) k k3 ((thr, str, pot, cnt, blk, trc, tL, base, op, asr, stp, lim, at', clm, gc), ops, ag, ws, rl, hL) ((thr, str, pot, cnt, blk, trc, tL, base, op, asr, stp, lim, at', clm, gc), hL, tr (fun i => hL (5 + i)) mt) (n + 1) (nI 3) (nI ((8 + j) >>> 3)) x23 := by
    intro x23 hx n
    have ML : ∀ val, val = aV (hL (5 + j)) k k3 → tl post ((thr, str, pot, cnt, blk, trc, htr, base, op, asr, stp, lim, at', clm, gc), ops, ag, ws, rl, hd, lo, lc, hc, mt, mpth) (nI i) ((thr, str, pot, cnt, blk, trc, tL, base, op, asr, stp, lim, at', clm, gc), ops, ag, ws, rl, hL) ((thr, str, pot, cnt, blk, trc, tL, base, op, asr, stp, lim, at', clm, gc), hL, tr (fun i => hL (5 + i)) mt) x23 val (aH hL k k3) (aT tL k k3) := by
      intro val ev
      subst ev
      exact st_tl (lim := lim) i3 ho hn rfl hx (pH hL j k k3) rfl V1 V2 e1 e2 (fun t' h' => Q t' h' _ _)
    refine ⟨fun _ => ⟨y9_in (hL 2), fun e y ey => ⟨6, ?_⟩, fun e y ey => ⟨6, ?_⟩⟩, fun hn => absurd (by decide) hn⟩
    · have ey : y = aV (hL (5 + j)) k k3 := by
        rw [aV, if_pos e, ey]
        show hL (5 + (hL 2 &&& 7)).toNatClampNeg ^^^ k3 = _
        rw [e5]
      exact st_118_1 (ML y ey) 5 0 rfl
    · have ey : y = aV (hL (5 + j)) k k3 := by
        rw [aV, if_neg e, ey]
        show hL (5 + (hL 2 &&& 7)).toNatClampNeg ^^^ 0 = _
        rw [e5]
        simp
      exact st_118 (ML y ey) 5 0 rfl
  have ST : ∀ (v n : Nat) (x : Nat → Int64), v < 3 → wl_Mo_proves_35 post ((thr, str, pot, cnt, blk, trc, htr, base, op, asr, stp, lim, at', clm, gc), ops, ag, ws, rl, hd, lo, lc, hc, mt, mpth) (nI i) k k3 ((thr, str, pot, cnt, blk, trc, tL, base, op, asr, stp, lim, at', clm, gc), ops, ag, ws, rl, hL) ((thr, str, pot, cnt, blk, trc, tL, base, op, asr, stp, lim, at', clm, gc), hL, tr (fun i => hL (5 + i)) mt) n (nI (v + 1)) (nI ((8 + j) >>> (v + 1))) (vp_updL x v (aP (sbv hL j) k k3 v)) → wl_Mo_proves_35 post ((thr, str, pot, cnt, blk, trc, htr, base, op, asr, stp, lim, at', clm, gc), ops, ag, ws, rl, hd, lo, lc, hc, mt, mpth) (nI i) k k3 ((thr, str, pot, cnt, blk, trc, tL, base, op, asr, stp, lim, at', clm, gc), ops, ag, ws, rl, hL) ((thr, str, pot, cnt, blk, trc, tL, base, op, asr, stp, lim, at', clm, gc), hL, tr (fun i => hL (5 + i)) mt) (n + 1) (nI v) (nI ((8 + j) >>> v)) x := by
    intro v n x hv w
    rw [← nI_1] at w
    have hs := (si_in j hj v hv).2
    have hvv : vp_in (nI v) 3 := vp_in_nI hv (by decide)
    refine ⟨fun hn => absurd hn (nI_ge (b := 3) hv (by decide)), fun _ => ?_⟩
    rw [si_m j hj v hv]
    refine ⟨vp_in_nI hs (by decide), ?_⟩
    rw [nI_clamp (show si j v < 2 ^ 31 from Nat.lt_trans hs (by decide))]
    refine ⟨fun e f ef => ⟨hvv, fun y ey => ?_⟩, fun e f ef => ⟨hvv, fun y ey => ?_⟩⟩
    · have ef : f = aP (sbv hL j) k k3 v := by
        rw [aP_v hv, if_pos e, ef]
        show tr (fun i => hL (5 + i)) mt (si j v) ^^^ _ = _
        rw [T v hv]
      rw [ey, si_h j hj v hv, nI_clamp (by omega), ef]
      exact w
    · have ef : f = aP (sbv hL j) k k3 v := by
        rw [aP_v hv, if_neg e, ef]
        show tr (fun i => hL (5 + i)) mt (si j v) ^^^ 0 = _
        rw [T v hv]
        simp
      rw [ey, si_h j hj v hv, nI_clamp (by omega), ef]
      exact w
  refine ⟨4, ST 0 3 mpth (by omega) (ST 1 2 _ (by omega) (ST 2 1 _ (by omega) (FIN _ ?_ 0)))⟩
  intro v hv
  rcases g_cs hv with r | r | r <;> subst r <;> simp [vp_updL]
/-! the hand counts below 13 alone -/
theorem sp_e {ops ag ws : Nat → Int32} {cnt lim : Int32} {h h' : Nat → Int32} {t : Int64} (ho : ∀ i, vp_in (ops i) 14) (e : ∀ i, i < 13 → h i = h' i) : (sp ops ag ws cnt lim h t).2 = (sp ops ag ws cnt lim h' t).2 ∧ ∀ i, i < 13 → (sp ops ag ws cnt lim h t).1 i = (sp ops ag ws cnt lim h' t).1 i := by
  have e0 := e 0 (by omega)
  have e1 := e 1 (by omega)
  have e2 := e 2 (by omega)
  have e3 := e 3 (by omega)
  have e4 := e 4 (by omega)
  obtain ⟨j, hj, ej, ec, e5, hv⟩ := y9_cl (h' 2)
  have e7 := e (5 + j) (by omega)
  have U : ∀ (f g : Nat → Int32) (k : Nat) (x : Int32), (∀ i, i < 13 → f i = g i) → ∀ i, i < 13 → upd f k x i = upd g k x i := by
    intro f g k x hfg i hi
    by_cases q : i = k
    · subst q; simp [upd]
    · simp [upd, q, hfg i hi]
  have eo0 : ops (h 0).toNatClampNeg = ops (h' 0).toNatClampNeg := by rw [e0]
  rcases op_cs (ho (h' 0).toNatClampNeg) with eo | eo | eo | eo | eo | eo | eo | eo | eo | eo | eo | eo | eo | eo <;> simp only [sp, e0, e1, e2, e3, e4, e5, e7, eo] <;> simp
  all_goals try (exact U _ _ _ _ e)
  all_goals try (exact U _ _ _ _ (U _ _ _ _ e))
  all_goals try (exact U _ _ _ _ (U _ _ _ _ (U _ _ _ _ e)))
  · by_cases q : lim ≤ h' 3
    · simp [q]; exact U _ _ _ _ e
    · simp [q]; exact U _ _ _ _ (U _ _ _ _ (U _ _ _ _ e))
  · by_cases q : h' 1 = 0
    · simp [q]; exact U _ _ _ _ e
    · simp [q]; exact U _ _ _ _ e
  · by_cases q : 0 ≤ h' 1
    · simp [q]; exact U _ _ _ _ e
    · simp [q]; exact U _ _ _ _ e
  · by_cases q : h' 4 = 30
    · simp [q]; exact U _ _ _ _ e
    · simp [q]; exact U _ _ _ _ (U _ _ _ _ e)
theorem spn_e {ops ag ws : Nat → Int32} {cnt lim : Int32} (ho : ∀ i, vp_in (ops i) 14) : ∀ n h h' t x y, (∀ i, i < 13 → h i = h' i) → (spn ops ag ws cnt lim n h t).2 = (spn ops ag ws cnt lim n h' t).2 ∧ (∀ i, i < 13 → (spn ops ag ws cnt lim n h t).1 i = (spn ops ag ws cnt lim n h' t).1 i) ∧ pp ops ag ws cnt lim n h t x y = pp ops ag ws cnt lim n h' t x y := by
  intro n
  induction n with
  | zero => intro h h' t x y e; exact ⟨rfl, e, rfl⟩
  | succ n ih =>
    intro h h' t x y e
    obtain ⟨a, b⟩ := sp_e (ag := ag) (ws := ws) (cnt := cnt) (lim := lim) (t := t) ho e
    have w := fun x y => ih (sp ops ag ws cnt lim h t).1 (sp ops ag ws cnt lim h' t).1 (sp ops ag ws cnt lim h' t).2 x y b
    refine ⟨?_, ?_, ?_⟩
    · show (spn ops ag ws cnt lim n (sp ops ag ws cnt lim h t).1 (sp ops ag ws cnt lim h t).2).2 = _
      rw [a]; exact (w x y).1
    · show ∀ i, i < 13 → (spn ops ag ws cnt lim n (sp ops ag ws cnt lim h t).1 (sp ops ag ws cnt lim h t).2).1 i = _
      rw [a]; exact (w x y).2.1
    · rw [pp, pp, a, b 4 (by omega), e 4 (by omega), e 2 (by omega), e 1 (by omega)]
      exact (w _ _).2.2
theorem f5a (i : Nat) : (0 = 5 + i) = False := eq_false (by omega)
theorem f5b (i : Nat) : (1 = 5 + i) = False := eq_false (by omega)
theorem f5c (i : Nat) : (2 = 5 + i) = False := eq_false (by omega)
theorem f5d (i : Nat) : (3 = 5 + i) = False := eq_false (by omega)
theorem f5e (i : Nat) : (4 = 5 + i) = False := eq_false (by omega)
/-! prove -/
theorem st_prove {post : Int32 → (ct_Sc × (Nat → Int32) × (Nat → Int32) × (Nat → Int32) × ct_In × (Nat → Int32) × ct_Ma × (Nat → Int32) × ct_Ma × (Nat → Int32) × (Nat → Int64) × ct_Pa × (Nat → Int32) × (Nat → Int32) × ct_Pr × ct_Ma × (Nat → Int32) × (Nat → Int64) × ct_As × ct_Ga × ct_Ga × ct_Ga) → Prop} {px : String → (ct_Sc × (Nat → Int32) × (Nat → Int32) × (Nat → Int32) × ct_In × (Nat → Int32) × ct_Ma × (Nat → Int32) × ct_Ma × (Nat → Int32) × (Nat → Int64) × ct_Pa × (Nat → Int32) × (Nat → Int32) × ct_Pr × ct_Ma × (Nat → Int32) × (Nat → Int64) × ct_As × ct_Ga × ct_Ga × ct_Ga) → Prop} {gc pot blk cnt op str asr stp wds at' : Int32} {base trc clm : Int64} {b ops ag ws rl c sc pto pam pcl : Nat → Int32} {sm pm : ct_Ma} {st pj : Nat → Int64} {pr : ct_Pr} {g0 g1 g2 : ct_Ga} {k k2 k3 : Int32} {ch lo hi mf dl ru : Nat → Int32} {lc hc md : Nat → Int64} (hd : Nat → Int32) (A : Nat → Nat) {G K : Nat} (hG : gc = nI G) (G3 : G ≤ 3) (h0 : op = 0 → G = 0) (q0 : gq g0 ch lo hi mf dl ru lc hc md 0) (q1 : gq g1 ch lo hi mf dl ru lc hc md 1) (q2 : gq g2 ch lo hi mf dl ru lc hc md 2) (hm : ∀ i, i < G → ¬ ru i = 0 → ¬ mf i = 0 → 1 < hi i - lo i) (hA : ∀ i, i < G → A i < 2 ^ 31 ∧ lo i = nI (A i)) (ho : ∀ i, vp_in (ops i) 14) (hn : cnt ≤ 60) (hp : vp_in (rl 0) 16) (h4 : vp_in (rl 4) 31) (hcl : ∀ i, i < 8 → c i = rl (5 + i)) (hop : ¬ op = 0 → vp_in asr 4 ∧ stp = nI K ∧ K ≤ 64) (hL : Nat → Nat → Int32) (tL : Nat → Int64) (eL : ∀ i, i < G → hL i = (spn ops ag ws cnt wds (A i) (hk rl hd) trc).1) (eT : ∀ i, i < G → tL i = (spn ops ag ws cnt wds (A i) (hk rl hd) trc).2) (j : Nat → Nat) (ej : ∀ i, i < G → j i < 8 ∧ hL i 2 &&& 7 = nI (j i)) (V1 V2 : Nat → Int64) (e1 : ∀ i, i < G → V1 i = cp (pH (hL i) (j i) k2 k3) (aT (tL i) k2 k3) (aP (sbv (hL i) (j i)) k2 k3) (aH (hL i) k2 k3 2 &&& 7)) (e2 : ∀ i, i < G → V2 i = cp (sp ops ag ws cnt wds (pH (hL i) (j i) k2 k3) (aT (tL i) k2 k3)).1 (sp ops ag ws cnt wds (pH (hL i) (j i) k2 k3) (aT (tL i) k2 k3)).2 (aP (sbv (hL i) (j i)) k2 k3) (aH (hL i) k2 k3 2 &&& 7)) (R : Nat → Int32) (eR : ∀ i, i < G → R i = pv (V1 i) (lc i) (V2 i) (hc i) (pH (hL i) (j i) k2 k3 0))
    (P : (¬ ∃ i, i < G ∧ k = nI i) → px "java/lang/IndexOutOfBoundsException" ((gc, pot, blk, base), b, ops, ag, cnt, ws, mm rl trc, c, sm, sc, st, rl 4, pto, pam, pr, pm, pcl, pj, (op, str, asr, stp, wds, at', clm), g0, g1, g2))
    (S : ∀ i, i < G → k = nI i → ¬ dv (lo i) (hi i) (mf i) (ru i) = 3 → px "java/lang/IllegalStateException" ((gc, pot, blk, base), b, ops, ag, cnt, ws, mm rl trc, c, sm, sc, st, rl 4, pto, pam, pr, pm, pcl, pj, (op, str, asr, stp, wds, at', clm), g0, g1, g2))
    (I : ∀ i, i < G → k = nI i → dv (lo i) (hi i) (mf i) (ru i) = 3 → (k2 < 0 ∨ ¬ k2 ≤ 10) → px "java/lang/IllegalArgumentException" ((gc, pot, blk, base), b, ops, ag, cnt, ws, mm rl trc, c, sm, sc, st, rl 4, pto, pam, pr, pm, pcl, pj, (op, str, asr, stp, wds, at', clm), g0, g1, g2))
    (Z : ∀ i, i < G → k = nI i → dv (lo i) (hi i) (mf i) (ru i) = 3 → ¬ k2 < 0 → k2 ≤ 10 → R i = 0 → ∀ sm' sc' st' pr' pm' pcl' pj', post 0 ((gc, pot, blk, base), b, ops, ag, cnt, ws, mm rl trc, c, sm', sc', st', rl 4, pto, pam, pr', pm', pcl', pj', (op, str, asr, stp, wds, at', clm), if i = 0 then (g0.1, g0.2.1, g0.2.2.1, g0.2.2.2.1, g0.2.2.2.2.1, g0.2.2.2.2.2.1, g0.2.2.2.2.2.2.1, blk + 4, g0.2.2.2.2.2.2.2.2) else g0, if i = 1 then (g1.1, g1.2.1, g1.2.2.1, g1.2.2.2.1, g1.2.2.2.2.1, g1.2.2.2.2.2.1, g1.2.2.2.2.2.2.1, blk + 4, g1.2.2.2.2.2.2.2.2) else g1, if i = 2 then (g2.1, g2.2.1, g2.2.2.1, g2.2.2.2.1, g2.2.2.2.2.1, g2.2.2.2.2.2.1, g2.2.2.2.2.2.2.1, blk + 4, g2.2.2.2.2.2.2.2.2) else g2))
    (N : ∀ i, i < G → k = nI i → dv (lo i) (hi i) (mf i) (ru i) = 3 → ¬ k2 < 0 → k2 ≤ 10 → ¬ R i = 0 → (op = 0 ∨ blk < at' + 12 ∨ ¬ rcn (upd ru i 0) G ≤ 0) → ∀ sm' sc' st' pr' pm' pcl' pj', post 1 ((gc, pot, blk, base), upd b asr.toNatClampNeg (b asr.toNatClampNeg + 100), ops, ag, cnt, ws, mm rl trc, c, sm', sc', st', rl 4, pto, pam, pr', pm', pcl', pj', (op, str, asr, stp, wds, at', clm), if i = 0 then (g0.1, g0.2.1, g0.2.2.1, g0.2.2.2.1, g0.2.2.2.2.1, g0.2.2.2.2.2.1, g0.2.2.2.2.2.2.1, blk + 4, 0) else g0, if i = 1 then (g1.1, g1.2.1, g1.2.2.1, g1.2.2.2.1, g1.2.2.2.2.1, g1.2.2.2.2.2.1, g1.2.2.2.2.2.2.1, blk + 4, 0) else g1, if i = 2 then (g2.1, g2.2.1, g2.2.2.1, g2.2.2.2.1, g2.2.2.2.2.1, g2.2.2.2.2.2.1, g2.2.2.2.2.2.2.1, blk + 4, 0) else g2))
    (Y : ∀ i, i < G → k = nI i → dv (lo i) (hi i) (mf i) (ru i) = 3 → ¬ k2 < 0 → k2 ≤ 10 → ¬ R i = 0 → ¬ op = 0 → ¬ blk < at' + 12 → rcn (upd ru i 0) G ≤ 0 → ∀ c', (∀ z, z < 8 → c' z = (spn ops ag ws cnt wds K (hk rl hd) trc).1 (5 + z)) → ∀ sm' sc' st' pr' pm' pcl' pj', post 1 ((0, pot, blk, clm), upd (upd b asr.toNatClampNeg (b asr.toNatClampNeg + 100)) asr.toNatClampNeg ((upd b asr.toNatClampNeg (b asr.toNatClampNeg + 100)) asr.toNatClampNeg + 100), ops, ag, cnt, ws, mm (spn ops ag ws cnt wds K (hk rl hd) trc).1 (spn ops ag ws cnt wds K (hk rl hd) trc).2, c', sm', sc', st', (spn ops ag ws cnt wds K (hk rl hd) trc).1 4, (pp ops ag ws cnt wds K (hk rl hd) trc pto pam).1, (pp ops ag ws cnt wds K (hk rl hd) trc pto pam).2, pr', pm', pcl', pj', (0, str, asr, stp, wds, at', clm), if i = 0 then (g0.1, g0.2.1, g0.2.2.1, g0.2.2.2.1, g0.2.2.2.2.1, g0.2.2.2.2.2.1, g0.2.2.2.2.2.2.1, blk + 4, 0) else g0, if i = 1 then (g1.1, g1.2.1, g1.2.2.1, g1.2.2.2.1, g1.2.2.2.2.1, g1.2.2.2.2.2.1, g1.2.2.2.2.2.2.1, blk + 4, 0) else g1, if i = 2 then (g2.1, g2.2.1, g2.2.2.1, g2.2.2.2.1, g2.2.2.2.2.1, g2.2.2.2.2.2.1, g2.2.2.2.2.2.2.1, blk + 4, 0) else g2)) :
    wp_Sc_prove post px ((gc, pot, blk, base), b, ops, ag, cnt, ws, mm rl trc, c, sm, sc, st, rl 4, pto, pam, pr, pm, pcl, pj, (op, str, asr, stp, wds, at', clm), g0, g1, g2) k k2 k3 := by
  refine st_gwd hG G3 q0 q1 q2 hm P S (fun i hi e ed => ?_)
  have w1 := I i hi e ed
  have w2 := Z i hi e ed
  have w3 := N i hi e ed
  have w4 := Y i hi e ed
  obtain ⟨hA1, hA2⟩ := hA i hi
  obtain ⟨hj, ejj⟩ := ej i hi
  have eL := eL i hi
  have eT := eT i hi
  have e1 := e1 i hi
  have e2 := e2 i hi
  have eR := eR i hi
  have hz : ¬ op = 0 := fun h => by
    have := h0 h
    omega
  obtain ⟨ha, hs, hK⟩ := hop hz
  rcases g_cs (show i < 3 by omega) with rfl | rfl | rfl
  · obtain ⟨a1, a2, a3, a4, a5, a6, a7, a8, a9⟩ := q0
    refine .inl ⟨rfl, ?_⟩
    refine ⟨fun z => w1 (.inl z), fun z => ⟨fun z2 => ?_, fun z2 => w1 (.inr z2)⟩⟩
    have w2 := w2 z z2
    have w3 := w3 z z2
    have w4 := w4 z z2
    rw [a2, hA2, a4, a5] at w2 w3 w4
    intro f ef
    subst ef
    show wp_Sc_runScratch _ _ g0.2.1 wds
    rw [a2, hA2]
    refine st_rs (hd := hd) hA1 ho hn hp hcl (fun c' hc' => ?_)
    rw [← eL, ← eT] at *
    refine st_take hc' (fun jj pcl' pj' st' hjj ejj' hp1 hp2 => ?_)
    have ee : jj = j 0 := by
      rw [ejj] at ejj'
      exact ((nI_eq (by omega) (by omega)).mp ejj').symm
    subst ee
    refine st_alter z z2 (fun pj'' hp3 => ?_)
    show wp_Sc_proofLeads _ _ g0.2.2.2.1 g0.2.2.2.2.1
    rw [a4, a5]
    obtain ⟨jA, hjA, ejA, ecA, -, hvA⟩ := y9_cl (aH (hL 0) k2 k3 2)
    have em : mm (aH (hL 0) k2 k3) (aT (tL 0) k2 k3) = mm (pH (hL 0) (j 0) k2 k3) (aT (tL 0) k2 k3) := by
      simp only [mm, pH, ecA, upd, f5a, f5b, f5c, f5d, f5e, if_false]
    rw [em]
    refine st_pl (P := aP (sbv (hL 0) (j 0)) k2 k3) wds rfl ho hn hvA (fun x hx => ?_) (fun x hx => ?_) (V1 0) (V2 0) e1 e2 (fun pm' pc' => ?_)
    · rw [ecA]
      by_cases qx : x = jA
      · subst qx; simp [pH, upd, ecA]
      · have qy : ¬ 5 + x = 5 + jA := by omega
        have q0' : ¬ 5 + x = 0 := by omega
        have q1' : ¬ 5 + x = 1 := by omega
        have q2' : ¬ 5 + x = 2 := by omega
        have q3' : ¬ 5 + x = 3 := by omega
        have q4' : ¬ 5 + x = 4 := by omega
        have h5 : aH (hL 0) k2 k3 (5 + x) = hL 0 (5 + x) := by simp [aH, q0', q1', q2', q3', q4']
        simp only [pH, upd, ecA, qx, qy, if_false, h5]
        exact hp1 x hx
    · refine (hp3 x hx).trans ?_
      show aP pj' k2 k3 x = _
      rw [aP_v hx, aP_v hx, hp2 x hx]
    · rw [← eR]
      refine ⟨fun r0 => w2 r0 _ _ _ _ _ _ _, fun r0 => ?_⟩
      refine st_pay ha ?_
      refine st_stand hd (upd ru 0 0) G K hG G3 (pk_us (f := ru) (k := 0) (x := 0)).symm (by rw [up_ne (by decide)]; exact q1.2.2.2.2.2.2.2.2) (by rw [up_ne (by decide)]; exact q2.2.2.2.2.2.2.2.2) ho hn hp h4 hcl hop (fun y => w3 r0 y _ _ _ _ _ _ _) (fun y1 y2 y3 c'' hc'' => w4 r0 y1 y2 y3 c'' hc'' _ _ _ _ _ _ _)
  · obtain ⟨a1, a2, a3, a4, a5, a6, a7, a8, a9⟩ := q1
    refine .inr (.inl ⟨rfl, ?_⟩)
    refine ⟨fun z => w1 (.inl z), fun z => ⟨fun z2 => ?_, fun z2 => w1 (.inr z2)⟩⟩
    have w2 := w2 z z2
    have w3 := w3 z z2
    have w4 := w4 z z2
    rw [a2, hA2, a4, a5] at w2 w3 w4
    intro f ef
    subst ef
    show wp_Sc_runScratch _ _ g1.2.1 wds
    rw [a2, hA2]
    refine st_rs (hd := hd) hA1 ho hn hp hcl (fun c' hc' => ?_)
    rw [← eL, ← eT] at *
    refine st_take hc' (fun jj pcl' pj' st' hjj ejj' hp1 hp2 => ?_)
    have ee : jj = j 1 := by
      rw [ejj] at ejj'
      exact ((nI_eq (by omega) (by omega)).mp ejj').symm
    subst ee
    refine st_alter z z2 (fun pj'' hp3 => ?_)
    show wp_Sc_proofLeads _ _ g1.2.2.2.1 g1.2.2.2.2.1
    rw [a4, a5]
    obtain ⟨jA, hjA, ejA, ecA, -, hvA⟩ := y9_cl (aH (hL 1) k2 k3 2)
    have em : mm (aH (hL 1) k2 k3) (aT (tL 1) k2 k3) = mm (pH (hL 1) (j 1) k2 k3) (aT (tL 1) k2 k3) := by
      simp only [mm, pH, ecA, upd, f5a, f5b, f5c, f5d, f5e, if_false]
    rw [em]
    refine st_pl (P := aP (sbv (hL 1) (j 1)) k2 k3) wds rfl ho hn hvA (fun x hx => ?_) (fun x hx => ?_) (V1 1) (V2 1) e1 e2 (fun pm' pc' => ?_)
    · rw [ecA]
      by_cases qx : x = jA
      · subst qx; simp [pH, upd, ecA]
      · have qy : ¬ 5 + x = 5 + jA := by omega
        have q0' : ¬ 5 + x = 0 := by omega
        have q1' : ¬ 5 + x = 1 := by omega
        have q2' : ¬ 5 + x = 2 := by omega
        have q3' : ¬ 5 + x = 3 := by omega
        have q4' : ¬ 5 + x = 4 := by omega
        have h5 : aH (hL 1) k2 k3 (5 + x) = hL 1 (5 + x) := by simp [aH, q0', q1', q2', q3', q4']
        simp only [pH, upd, ecA, qx, qy, if_false, h5]
        exact hp1 x hx
    · refine (hp3 x hx).trans ?_
      show aP pj' k2 k3 x = _
      rw [aP_v hx, aP_v hx, hp2 x hx]
    · rw [← eR]
      refine ⟨fun r0 => w2 r0 _ _ _ _ _ _ _, fun r0 => ?_⟩
      refine st_pay ha ?_
      refine st_stand hd (upd ru 1 0) G K hG G3 (by rw [up_ne (by decide)]; exact q0.2.2.2.2.2.2.2.2) (pk_us (f := ru) (k := 1) (x := 0)).symm (by rw [up_ne (by decide)]; exact q2.2.2.2.2.2.2.2.2) ho hn hp h4 hcl hop (fun y => w3 r0 y _ _ _ _ _ _ _) (fun y1 y2 y3 c'' hc'' => w4 r0 y1 y2 y3 c'' hc'' _ _ _ _ _ _ _)
  · obtain ⟨a1, a2, a3, a4, a5, a6, a7, a8, a9⟩ := q2
    refine .inr (.inr ⟨rfl, ?_⟩)
    refine ⟨fun z => w1 (.inl z), fun z => ⟨fun z2 => ?_, fun z2 => w1 (.inr z2)⟩⟩
    have w2 := w2 z z2
    have w3 := w3 z z2
    have w4 := w4 z z2
    rw [a2, hA2, a4, a5] at w2 w3 w4
    intro f ef
    subst ef
    show wp_Sc_runScratch _ _ g2.2.1 wds
    rw [a2, hA2]
    refine st_rs (hd := hd) hA1 ho hn hp hcl (fun c' hc' => ?_)
    rw [← eL, ← eT] at *
    refine st_take hc' (fun jj pcl' pj' st' hjj ejj' hp1 hp2 => ?_)
    have ee : jj = j 2 := by
      rw [ejj] at ejj'
      exact ((nI_eq (by omega) (by omega)).mp ejj').symm
    subst ee
    refine st_alter z z2 (fun pj'' hp3 => ?_)
    show wp_Sc_proofLeads _ _ g2.2.2.2.1 g2.2.2.2.2.1
    rw [a4, a5]
    obtain ⟨jA, hjA, ejA, ecA, -, hvA⟩ := y9_cl (aH (hL 2) k2 k3 2)
    have em : mm (aH (hL 2) k2 k3) (aT (tL 2) k2 k3) = mm (pH (hL 2) (j 2) k2 k3) (aT (tL 2) k2 k3) := by
      simp only [mm, pH, ecA, upd, f5a, f5b, f5c, f5d, f5e, if_false]
    rw [em]
    refine st_pl (P := aP (sbv (hL 2) (j 2)) k2 k3) wds rfl ho hn hvA (fun x hx => ?_) (fun x hx => ?_) (V1 2) (V2 2) e1 e2 (fun pm' pc' => ?_)
    · rw [ecA]
      by_cases qx : x = jA
      · subst qx; simp [pH, upd, ecA]
      · have qy : ¬ 5 + x = 5 + jA := by omega
        have q0' : ¬ 5 + x = 0 := by omega
        have q1' : ¬ 5 + x = 1 := by omega
        have q2' : ¬ 5 + x = 2 := by omega
        have q3' : ¬ 5 + x = 3 := by omega
        have q4' : ¬ 5 + x = 4 := by omega
        have h5 : aH (hL 2) k2 k3 (5 + x) = hL 2 (5 + x) := by simp [aH, q0', q1', q2', q3', q4']
        simp only [pH, upd, ecA, qx, qy, if_false, h5]
        exact hp1 x hx
    · refine (hp3 x hx).trans ?_
      show aP pj' k2 k3 x = _
      rw [aP_v hx, aP_v hx, hp2 x hx]
    · rw [← eR]
      refine ⟨fun r0 => w2 r0 _ _ _ _ _ _ _, fun r0 => ?_⟩
      refine st_pay ha ?_
      refine st_stand hd (upd ru 2 0) G K hG G3 (by rw [up_ne (by decide)]; exact q0.2.2.2.2.2.2.2.2) (by rw [up_ne (by decide)]; exact q1.2.2.2.2.2.2.2.2) (pk_us (f := ru) (k := 2) (x := 0)).symm ho hn hp h4 hcl hop (fun y => w3 r0 y _ _ _ _ _ _ _) (fun y1 y2 y3 c'' hc'' => w4 r0 y1 y2 y3 c'' hc'' _ _ _ _ _ _ _)
theorem st_mprove {post : Int32 → (ct_Mo × (Nat → Int32) × (Nat → Int32) × (Nat → Int32) × (Nat → Int32) × (Nat → Int32) × (Nat → Int32) × (Nat → Int32) × (Nat → Int32) × (Nat → Int32) × (Nat → Int32) × (Nat → Int64) × (Nat → Int64) × (Nat → Int32) × (Nat → Int32) × (Nat → Int32) × (Nat → Int64) × (Nat → Int64)) → Prop} {thr str pot cnt blk op asr stp wds at' gc : Int32} {trc htr base clm : Int64} {b ops ag ws rl hd pto pam lo hi mf dl ru : Nat → Int32} {lc hc mt mpth : Nat → Int64} {k k2 k3 : Int32} (A : Nat → Nat) {G K : Nat} (hG : gc = nI G) (G3 : G ≤ 3) (h0 : op = 0 → G = 0) (hA : ∀ i, i < G → A i < 2 ^ 31 ∧ lo i = nI (A i)) (ho : ∀ i, vp_in (ops i) 14) (hn : cnt ≤ 60) (hp : vp_in (rl 0) 16) (h4 : vp_in (rl 4) 31) (hop : ¬ op = 0 → vp_in asr 4 ∧ stp = nI K ∧ K ≤ 64) (hL : Nat → Nat → Int32) (tL : Nat → Int64) (eL : ∀ i, i < G → hL i = (spn ops ag ws cnt wds (A i) (hk rl hd) trc).1) (eT : ∀ i, i < G → tL i = (spn ops ag ws cnt wds (A i) (hk rl hd) trc).2) (j : Nat → Nat) (ej : ∀ i, i < G → j i < 8 ∧ hL i 2 &&& 7 = nI (j i)) (V1 V2 : Nat → Int64) (e1 : ∀ i, i < G → V1 i = cp (pH (hL i) (j i) k2 k3) (aT (tL i) k2 k3) (aP (sbv (hL i) (j i)) k2 k3) (aH (hL i) k2 k3 2 &&& 7)) (e2 : ∀ i, i < G → V2 i = cp (sp ops ag ws cnt wds (pH (hL i) (j i) k2 k3) (aT (tL i) k2 k3)).1 (sp ops ag ws cnt wds (pH (hL i) (j i) k2 k3) (aT (tL i) k2 k3)).2 (aP (sbv (hL i) (j i)) k2 k3) (aH (hL i) k2 k3 2 &&& 7)) (R : Nat → Int32) (eR : ∀ i, i < G → R i = pv (V1 i) (lc i) (V2 i) (hc i) (pH (hL i) (j i) k2 k3 0))
    (P : (¬ ∃ i, i < G ∧ k = nI i) → post 0 ((1, str, pot, cnt, blk, trc, htr, base, op, asr, stp, wds, at', clm, gc), ops, ag, b, ws, rl, hd, pto, pam, lo, hi, lc, hc, mf, dl, ru, mt, mpth))
    (S : ∀ i, i < G → k = nI i → ¬ dv (lo i) (hi i) (mf i) (ru i) = 3 → post 0 ((2, str, pot, cnt, blk, trc, htr, base, op, asr, stp, wds, at', clm, gc), ops, ag, b, ws, rl, hd, pto, pam, lo, hi, lc, hc, mf, dl, ru, mt, mpth))
    (I : ∀ i, i < G → k = nI i → dv (lo i) (hi i) (mf i) (ru i) = 3 → (k2 < 0 ∨ ¬ k2 ≤ 10) → post 0 ((3, str, pot, cnt, blk, trc, htr, base, op, asr, stp, wds, at', clm, gc), ops, ag, b, ws, rl, hd, pto, pam, lo, hi, lc, hc, mf, dl, ru, mt, mpth))
    (Z : ∀ i, i < G → k = nI i → dv (lo i) (hi i) (mf i) (ru i) = 3 → ¬ k2 < 0 → k2 ≤ 10 → R i = 0 → ∀ t' h' m' p', post 0 ((0, str, pot, cnt, blk, trc, t', base, op, asr, stp, wds, at', clm, gc), ops, ag, b, ws, rl, h', pto, pam, lo, hi, lc, hc, mf, upd dl i (blk + 4), ru, m', p'))
    (N : ∀ i, i < G → k = nI i → dv (lo i) (hi i) (mf i) (ru i) = 3 → ¬ k2 < 0 → k2 ≤ 10 → ¬ R i = 0 → (op = 0 ∨ blk < at' + 12 ∨ ¬ rcn (upd ru i 0) G ≤ 0) → ∀ t' h' m' p', post 1 ((0, str, pot, cnt, blk, trc, t', base, op, asr, stp, wds, at', clm, gc), ops, ag, upd b asr.toNatClampNeg (b asr.toNatClampNeg + 100), ws, rl, h', pto, pam, lo, hi, lc, hc, mf, dl, upd ru i 0, m', p'))
    (Y : ∀ i, i < G → k = nI i → dv (lo i) (hi i) (mf i) (ru i) = 3 → ¬ k2 < 0 → k2 ≤ 10 → ¬ R i = 0 → ¬ op = 0 → ¬ blk < at' + 12 → rcn (upd ru i 0) G ≤ 0 → ∀ h' m' p', post 1 ((0, str, pot, cnt, blk, (spn ops ag ws cnt wds K (hk rl h') trc).2, (spn ops ag ws cnt wds K (hk rl h') trc).2, clm, 0, asr, stp, wds, at', clm, 0), ops, ag, upd (upd b asr.toNatClampNeg (b asr.toNatClampNeg + 100)) asr.toNatClampNeg ((upd b asr.toNatClampNeg (b asr.toNatClampNeg + 100)) asr.toNatClampNeg + 100), ws, hk (spn ops ag ws cnt wds K (hk rl h') trc).1 rl, (spn ops ag ws cnt wds K (hk rl h') trc).1, (pp ops ag ws cnt wds K (hk rl h') trc pto pam).1, (pp ops ag ws cnt wds K (hk rl h') trc pto pam).2, lo, hi, lc, hc, mf, dl, upd ru i 0, m', p')) :
    wp_Mo_prove post ((thr, str, pot, cnt, blk, trc, htr, base, op, asr, stp, wds, at', clm, gc), ops, ag, b, ws, rl, hd, pto, pam, lo, hi, lc, hc, mf, dl, ru, mt, mpth) k k2 k3 := by
  refine st_misG hG G3 h0 (fun h => ⟨fun _ => ⟨fun _ => P h, fun h => absurd (by decide) h⟩, fun h => absurd rfl h⟩) (fun i hi' e => ⟨fun h => absurd h (by decide), fun _ => ?_⟩)
  subst e
  have hv : vp_in (nI i) 3 := vp_in_nI (by omega) (by decide)
  obtain ⟨hA1, hA2⟩ := hA i hi'
  obtain ⟨hj, ejj⟩ := ej i hi'
  have hz : ¬ op = 0 := fun h => by
    have := h0 h
    omega
  obtain ⟨ha, hs, hK⟩ := hop hz
  refine st_due (by omega) ⟨fun ed => ?_, fun ed => ⟨fun _ => S i hi' rfl ed, fun h => absurd (by decide) h⟩⟩
  refine ⟨fun z => ⟨fun _ => I i hi' rfl ed (.inl z), fun h => absurd (by decide) h⟩, fun z => ⟨fun z2 => ?_, fun z2 => ⟨fun _ => I i hi' rfl ed (.inr z2), fun h => absurd (by decide) h⟩⟩⟩
  refine st_proves (A := A i) (by omega) hA1 hA2 ho hn hp (hL i) (tL i) (eL i hi') (eT i hi') (j i) hj ejj (V1 i) (V2 i) (e1 i hi') (e2 i hi') (fun t' h' m' p' => ?_)
  rw [← eR i hi']
  refine ⟨fun r0 f ef => ⟨hv, ?_⟩, fun r0 => ?_⟩
  · subst ef
    rw [nI_clamp (by omega)]
    exact Z i hi' rfl ed z z2 r0 t' h' m' p'
  · exact st_keep G K i (by omega) ha hG G3 ho hn hp h4 hop _ rfl (fun y => N i hi' rfl ed z z2 r0 y t' h' m' p') (fun y1 y2 y3 => Y i hi' rfl ed z z2 r0 y1 y2 y3 h' m' p')
