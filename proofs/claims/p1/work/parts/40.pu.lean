/-! the pure part: what the methods compute -/
/-- the mixing function of both sides -/
def mx (a b : Int64) : Int64 :=
  let y1 := (a + (b * 6364136223846793005)) ^^^ 3935559000370003845
  let y2 := y1 ^^^ ((y1.toUInt64 >>> ((31 : Int32).toInt64.toUInt64 &&& Int64.toUInt64 63)).toInt64)
  let y3 := y2 * (-7723592293110705685)
  y3 ^^^ ((y3.toUInt64 >>> ((27 : Int32).toInt64.toUInt64 &&& Int64.toUInt64 63)).toInt64)
def mp (u v : Int64) : Int64 := mx (mx 2 u) v
def wh (pc a b rd pd tr rt : Int64) : Int64 := mx (mx (mx (mx (mx (mx (mx 0 pc) a) b) rd) pd) tr) rt
theorem pu_Mi_mix {post : Int64 → Unit → Prop} {u : Unit} {a b : Int64} (h : post (mx a b) ()) : wp_Mi_mix post u a b := by
  intro y1 e1 y2 e2 y3 e3 y4 e4
  subst e1; subst e2; subst e3; subst e4
  exact h
theorem pu_Mo_mix {post : Int64 → Unit → Prop} {u : Unit} {a b : Int64} (h : post (mx a b) ()) : wp_Mo_mix post u a b := by
  intro y1 e1 y2 e2 y3 e3
  subst e1; subst e2; subst e3
  exact h
theorem pu_Mi_mixLeaf {post : Int64 → Unit → Prop} {u : Unit} {k : Int32} (h : post (mx 1 k.toInt64) ()) : wp_Mi_mixLeaf post u k := pu_Mi_mix h
theorem pu_Mi_mixPair {post : Int64 → Unit → Prop} {u : Unit} {a b : Int64} (h : post (mp a b) ()) : wp_Mi_mixPair post u a b := pu_Mi_mix (pu_Mi_mix h)
theorem pu_Mo_pair {post : Int64 → Unit → Prop} {u : Unit} {a b : Int64} (h : post (mp a b) ()) : wp_Mo_pair post u a b := pu_Mo_mix (pu_Mo_mix h)
theorem pu_Mo_whole {post : Int64 → Unit → Prop} {u : Unit} {a b c d e f g : Int64} (h : post (wh a b c d e f g) ()) : wp_Mo_whole post u a b c d e f g := pu_Mo_mix (pu_Mo_mix (pu_Mo_mix (pu_Mo_mix (pu_Mo_mix (pu_Mo_mix (pu_Mo_mix h))))))
/-- the leaves, then the nodes, of the cells c laid into x -/
def lf (c : Nat → Int32) (x : Nat → Int64) : Nat → Nat → Int64
  | 0 => x
  | n + 1 => vp_updL (lf c x n) (8 + n) (mx 1 (c n).toInt64)
def nd (x : Nat → Int64) : Nat → Nat → Int64
  | 0 => x
  | n + 1 => vp_updL (nd x n) (7 - n) (mp (nd x n (2 * (7 - n))) (nd x n (2 * (7 - n) + 1)))
def tr (c : Nat → Int32) (x : Nat → Int64) : Nat → Int64 := nd (lf c x 8) 7
theorem nd_step (x : Nat → Int64) {k : Nat} (hk : k + 1 ≤ 7) : nd x (7 - k) = vp_updL (nd x (7 - (k + 1))) (k + 1) (mp (nd x (7 - (k + 1)) (2 * (k + 1))) (nd x (7 - (k + 1)) (2 * (k + 1) + 1))) := by
  have h1 : 7 - k = (7 - (k + 1)) + 1 := by omega
  have h2 : 7 - (7 - (k + 1)) = k + 1 := by omega
  rw [h1]
  show vp_updL _ (7 - (7 - (k + 1))) _ = _
  rw [h2]
theorem nI_lt1 {k : Nat} (hk : k < 2 ^ 31) : nI k < 1 ↔ k < 1 := nI_ltI hk (by decide)
theorem nI_2m (k : Nat) : (2 : Int32) * nI k = nI (2 * k) := pk_mul 2 k
theorem nI_8a (k : Nat) : (8 : Int32) + nI k = nI (8 + k) := nI_add 8 k
theorem nI_5a (k : Nat) : (5 : Int32) + nI k = nI (5 + k) := nI_add 5 k
theorem pu_g35 {post : (ct_Ma × (Nat → Int32) × (Nat → Int64)) → Prop} {u : ct_Ma × (Nat → Int32) × (Nat → Int64)} {x : Nat → Int64} (h : post (u.1, u.2.1, nd x 7)) : ∀ k, k ≤ 7 → wl_Ma_growTree_35 post u (k + 1) (nI k) (nd x (7 - k)) := by
  intro k
  induction k with
  | zero => intro _; exact ⟨fun _ => h, fun hn => absurd ((nI_lt1 (by decide)).mpr (by decide)) hn⟩
  | succ k ih =>
    intro hk
    have ih := ih (by omega)
    refine ⟨fun hn => absurd ((nI_lt1 (by omega)).mp hn) (by omega), fun _ => ?_⟩
    rw [nI_2m, nI_1]
    refine ⟨vp_in_nI (by omega) (by decide), vp_in_nI (by omega) (by decide), pu_Mi_mixPair ⟨vp_in_nI (by omega) (by decide), ?_⟩⟩
    rw [pk_m1, nI_clamp (by omega), nI_clamp (by omega), nI_clamp (by omega), ← nd_step x hk]
    exact ih
theorem pu_o39 {post : (ct_Mo × (Nat → Int32) × (Nat → Int64)) → Prop} {u : ct_Mo × (Nat → Int32) × (Nat → Int64)} {x : Nat → Int64} (h : post (u.1, u.2.1, nd x 7)) : ∀ k, k ≤ 7 → wl_Mo_tree_39 post u (k + 1) (nI k) (nd x (7 - k)) := by
  intro k
  induction k with
  | zero => intro _; exact ⟨fun _ => h, fun hn => absurd ((nI_lt1 (by decide)).mpr (by decide)) hn⟩
  | succ k ih =>
    intro hk
    have ih := ih (by omega)
    refine ⟨fun hn => absurd ((nI_lt1 (by omega)).mp hn) (by omega), fun _ => ?_⟩
    rw [nI_2m, nI_1]
    refine ⟨vp_in_nI (by omega) (by decide), vp_in_nI (by omega) (by decide), pu_Mo_pair ⟨vp_in_nI (by omega) (by decide), ?_⟩⟩
    rw [pk_m1, nI_clamp (by omega), nI_clamp (by omega), nI_clamp (by omega), ← nd_step x hk]
    exact ih
theorem nI_8le {k : Nat} (hk : k < 2 ^ 31) : (8 : Int32) ≤ nI k ↔ 8 ≤ k := nI_leI (by decide) hk
theorem nI_13le {k : Nat} (hk : k < 2 ^ 31) : (13 : Int32) ≤ nI k ↔ 13 ≤ k := nI_leI (by decide) hk
theorem pu_g2 {post : (ct_Ma × (Nat → Int32) × (Nat → Int64)) → Prop} {u : ct_Ma × (Nat → Int32) × (Nat → Int64)} {x : Nat → Int64} (h : post (u.1, u.2.1, tr u.2.1 x)) : ∀ j k, j + k = 8 → wl_Ma_growTree_2 post u (j + 1) (nI k) (lf u.2.1 x k) := by
  intro j
  induction j with
  | zero =>
    intro k hk
    have hk : k = 8 := by omega
    subst hk
    exact ⟨fun _ => ⟨8, pu_g35 h 7 (Nat.le_refl _)⟩, fun hn => absurd ((nI_8le (by decide)).mpr (by decide)) hn⟩
  | succ j ih =>
    intro k hk
    have ih := ih (k + 1) (by omega)
    refine ⟨fun hn => absurd ((nI_8le (by omega)).mp hn) (by omega), fun _ => ⟨vp_in_nI (by omega) (by decide), pu_Mi_mixLeaf ?_⟩⟩
    rw [nI_8a, nI_clamp (by omega), nI_clamp (by omega), nI_1]
    exact ⟨vp_in_nI (by omega) (by decide), ih⟩
theorem pu_o2 {post : (ct_Mo × (Nat → Int32) × (Nat → Int64)) → Prop} {u : ct_Mo × (Nat → Int32) × (Nat → Int64)} {x : Nat → Int64} (h : post (u.1, u.2.1, tr (fun i => u.2.1 (5 + i)) x)) : ∀ j k, j + k = 8 → wl_Mo_tree_2 post u (j + 1) (nI k) (lf (fun i => u.2.1 (5 + i)) x k) := by
  intro j
  induction j with
  | zero =>
    intro k hk
    have hk : k = 8 := by omega
    subst hk
    exact ⟨fun _ => ⟨8, pu_o39 h 7 (Nat.le_refl _)⟩, fun hn => absurd ((nI_8le (by decide)).mpr (by decide)) hn⟩
  | succ j ih =>
    intro k hk
    have ih := ih (k + 1) (by omega)
    refine ⟨fun hn => absurd ((nI_8le (by omega)).mp hn) (by omega), fun _ => ?_⟩
    rw [nI_5a, nI_8a, nI_clamp (by omega), nI_clamp (by omega), nI_1]
    exact ⟨vp_in_nI (by omega) (by decide), pu_Mo_mix ⟨vp_in_nI (by omega) (by decide), ih⟩⟩
theorem pu_Ma_growTree {post : (ct_Ma × (Nat → Int32) × (Nat → Int64)) → Prop} {u : ct_Ma × (Nat → Int32) × (Nat → Int64)} (h : post (u.1, u.2.1, tr u.2.1 u.2.2)) : wp_Ma_growTree post u := ⟨9, pu_g2 h 8 0 rfl⟩
theorem pu_Mo_tree {post : (ct_Mo × (Nat → Int32) × (Nat → Int64)) → Prop} {u : ct_Mo × (Nat → Int32) × (Nat → Int64)} (h : post (u.1, u.2.1, tr (fun i => u.2.1 (5 + i)) u.2.2)) : wp_Mo_tree post u := ⟨9, pu_o2 h 8 0 rfl⟩
/-- the commitment of a machine's words over a tree -/
def cm (m : ct_Ma) (t : Nat → Int64) : Int64 := wh m.1.toInt64 m.2.1.toInt64 m.2.2.1.toInt64 m.2.2.2.1.toInt64 m.2.2.2.2.1.toInt64 m.2.2.2.2.2 (t 1)
theorem pu_Ma_cw {post : Int64 → ct_Ma → Prop} {u : ct_Ma} {k : Int64} (h : post (wh u.1.toInt64 u.2.1.toInt64 u.2.2.1.toInt64 u.2.2.2.1.toInt64 u.2.2.2.2.1.toInt64 u.2.2.2.2.2 k) u) : wp_Ma_commitmentWith post u k := pu_Mi_mix (pu_Mi_mix (pu_Mi_mix (pu_Mi_mix (pu_Mi_mix (pu_Mi_mix (pu_Mi_mix h))))))
theorem pu_Ma_commitment {post : Int64 → (ct_Ma × (Nat → Int32) × (Nat → Int64)) → Prop} {u : ct_Ma × (Nat → Int32) × (Nat → Int64)} (h : post (cm u.1 (tr u.2.1 u.2.2)) (u.1, u.2.1, tr u.2.1 u.2.2)) : wp_Ma_commitment post u := pu_Ma_growTree (pu_Ma_cw h)
theorem pu_Mo_commitment {post : Int64 → (ct_Mo × (Nat → Int32) × (Nat → Int64)) → Prop} {u : ct_Mo × (Nat → Int32) × (Nat → Int64)} (h : post (wh (u.2.1 0).toInt64 (u.2.1 1).toInt64 (u.2.1 2).toInt64 (u.2.1 3).toInt64 (u.2.1 4).toInt64 u.1.2.2.2.2.2.2.1 (tr (fun i => u.2.1 (5 + i)) u.2.2 1)) (u.1, u.2.1, tr (fun i => u.2.1 (5 + i)) u.2.2)) : wp_Mo_commitment post u := pu_Mo_tree (pu_Mo_whole h)
/-- the true state taken into the hand -/
def tk (r x : Nat → Int32) : Nat → Nat → Int32
  | 0 => x
  | n + 1 => upd (tk r x n) n (r n)
abbrev mo_tk (o : ct_Mo) : ct_Mo := (o.1, o.2.1, o.2.2.1, o.2.2.2.1, o.2.2.2.2.1, o.2.2.2.2.2.1, o.2.2.2.2.2.1, o.2.2.2.2.2.2.2.1, o.2.2.2.2.2.2.2.2.1, o.2.2.2.2.2.2.2.2.2.1, o.2.2.2.2.2.2.2.2.2.2.1, o.2.2.2.2.2.2.2.2.2.2.2.1, o.2.2.2.2.2.2.2.2.2.2.2.2.1, o.2.2.2.2.2.2.2.2.2.2.2.2.2.1, o.2.2.2.2.2.2.2.2.2.2.2.2.2.2)
theorem pu_t2 {post : (ct_Mo × (Nat → Int32) × (Nat → Int32)) → Prop} {u : ct_Mo × (Nat → Int32) × (Nat → Int32)} {x : Nat → Int32} (h : post (mo_tk u.1, u.2.1, tk u.2.1 x 13)) : ∀ j k, j + k = 13 → wl_Mo_take_2 post u (j + 1) (nI k) (tk u.2.1 x k) := by
  intro j
  induction j with
  | zero =>
    intro k hk
    have hk : k = 13 := by omega
    subst hk
    exact ⟨fun _ => h, fun hn => absurd ((nI_13le (by decide)).mpr (by decide)) hn⟩
  | succ j ih =>
    intro k hk
    have ih := ih (k + 1) (by omega)
    refine ⟨fun hn => absurd ((nI_13le (by omega)).mp hn) (by omega), fun _ => ⟨vp_in_nI (by omega) (by decide), fun f10 e10 => ⟨vp_in_nI (by omega) (by decide), ?_⟩⟩⟩
    rw [nI_clamp (by omega)] at e10 ⊢
    rw [nI_1, e10]
    exact ih
theorem pu_Mo_take {post : (ct_Mo × (Nat → Int32) × (Nat → Int32)) → Prop} {u : ct_Mo × (Nat → Int32) × (Nat → Int32)} (h : post (mo_tk u.1, u.2.1, tk u.2.1 u.2.2 13)) : wp_Mo_take post u := ⟨14, pu_t2 h 13 0 rfl⟩
