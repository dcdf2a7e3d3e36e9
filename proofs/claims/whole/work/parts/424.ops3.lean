/-! ways -/
theorem ac (n : Nat) (a b : Int32) : (∃ x y, x < 36 ∧ y < 36 ∧ a = nI x ∧ b = nI y ∧ fX6_isCell n a = some (nI 1) ∧ fX6_isCell n b = some (nI 1) ∧ fX7_areCells n a b = some (nI 1)) ∨ (fX6_isCell n a = some (nI 0) ∧ fX7_areCells n a b = some (nI 0)) ∨ (fX6_isCell n a = some (nI 1) ∧ fX6_isCell n b = some (nI 0) ∧ fX7_areCells n a b = some (nI 0)) := by
  rcases ce n a with ⟨x, hx, rfl, c6, c7⟩ | ⟨-, c6, c7⟩
  · rcases ce n b with ⟨y, hy, rfl, d6, d7⟩ | ⟨-, d6, d7⟩
    · exact Or.inl ⟨x, y, hx, hy, rfl, rfl, c6, d6, by unfold fX7_areCells; rw [c7, d7]; rfl⟩
    · exact Or.inr (Or.inr ⟨c6, d6, by unfold fX7_areCells; rw [c7, d7]; rfl⟩)
  · exact Or.inr (Or.inl ⟨c6, by unfold fX7_areCells; rw [c7]; rfl⟩)
theorem nbI_pos {v : Nat} : (0 ≤ nbI v) = (v < 36) := propext (by
  by_cases h : v < 36
  · rw [nbI_T h]; exact ⟨fun _ => h, fun _ => nI_pos' (by omega)⟩
  · rw [nbI_F (by omega)]; exact ⟨fun h1 => absurd h1 (by decide), fun h1 => absurd h1 h⟩)
/-- none: a finding; else the number -/
theorem orN (n : Nat) {told found : Nat → Int32} (hT : XT told found) (v : Nat) : ∃ t' f' w, XT t' f' ∧ (if 0 ≤ nbI v then some (nbI v, told) else (fX6_finding n (3 : Int32) told).bind (fun q => some (q.1, q.2))) = some (w, t') ∧ fX7_orNone n (nbI v) found = some (w, f') := by
  obtain ⟨t3, f3, i1, i2, i3⟩ := fnd n hT 3 (by decide) z_3 (L := -1000004) (by decide)
  unfold fX7_orNone
  by_cases h : v < 36
  · rw [if_pos (by rw [nbI_pos]; exact h), if_pos (by rw [nbI_pos]; exact h)]
    exact ⟨_, _, _, hT, rfl, rfl⟩
  · rw [if_neg (by rw [nbI_pos]; exact h), if_neg (by rw [nbI_pos]; exact h), i1, i2]
    exact ⟨_, _, _, i3, rfl, rfl⟩
theorem op_way (n : Nat) (hn : 100 ≤ n) {p0_paths : Nat → Int32} {p0_water : Int64} {p0_wall : Int64} {p0_kind : Nat → Int32} {p0_place : Nat → Int32} {p0_facing : Nat → Int32} {p0_age : Nat → Int32} {p0_seeds : Int32} {p0_season : Int32} {p0_z : Int32} {p0_spots : Nat → Int32} {r told found steps queue : Nat → Int32} {b : Nat} (hK : XK p0_paths p0_water p0_wall p0_kind p0_place p0_facing p0_age p0_seeds p0_season p0_z p0_spots r b) (hT : XT told found) (a1 a2 : Int32) :
    ∃ x y, fX6_way n a1 a2 p0_paths told = some x ∧ fX7_way n a1 a2 r found steps queue = some y ∧ x.1 = y.1 ∧ XT x.2 y.2.1 := by
  obtain ⟨t', f', g1, g2, g3⟩ := fnd n hT 0 (by decide) z_0 (L := -1000001) (by decide)
  obtain ⟨q, e, ⟨k1, k2, k3, k4, k5, k6, k7, k8, k9, k10, k11⟩, hr, hv, hs⟩ := hK
  rcases ac n a1 a2 with ⟨x, y, hx, hy, rfl, rfl, c1, c2, c3⟩ | ⟨c1, c3⟩ | ⟨c1, c2, c3⟩
  · obtain ⟨v, w1, w2⟩ := e7_walk n hn (steps := steps) (queue := queue) hr hv hx
    obtain ⟨t3, f3, w, i1, i2, i3⟩ := orN n hT (dsk (hp q) x y)
    simp only [fX6_way, fX7_way, c1, c2, c3, w1, vi_T hy (show 36 < 2 ^ 31 by decide), nI_clamp (show y < 2 ^ 31 by omega), w2 y hy, i3, e2_pathSet n hn k1 hv, e0_steps n hn (hp q) hx hy, Option.bind_some, Option.elim_some, Option.elim_none, t10, t00, if_true, if_false]
    rw [i2]
    exact ⟨_, _, rfl, rfl, rfl, i1⟩
  · simp only [fX6_way, fX7_way, c1, c3, g1, g2, Option.bind_some, Option.elim_some, Option.elim_none, t10, t00, if_true, if_false]
    exact ⟨_, _, rfl, rfl, rfl, g3⟩
  · simp only [fX6_way, fX7_way, c1, c2, c3, g1, g2, Option.bind_some, Option.elim_some, Option.elim_none, t10, t00, if_true, if_false]
    exact ⟨_, _, rfl, rfl, rfl, g3⟩
theorem op_joined (n : Nat) (hn : 100 ≤ n) {p0_paths : Nat → Int32} {p0_water : Int64} {p0_wall : Int64} {p0_kind : Nat → Int32} {p0_place : Nat → Int32} {p0_facing : Nat → Int32} {p0_age : Nat → Int32} {p0_seeds : Int32} {p0_season : Int32} {p0_z : Int32} {p0_spots : Nat → Int32} {r told found steps queue : Nat → Int32} {b : Nat} (hK : XK p0_paths p0_water p0_wall p0_kind p0_place p0_facing p0_age p0_seeds p0_season p0_z p0_spots r b) (hT : XT told found) (a1 : Int32) :
    ∃ x y, fX6_joined n a1 p0_paths told = some x ∧ fX7_joined n a1 r found steps queue = some y ∧ x.1 = y.1 ∧ XT x.2 y.2.1 := by
  obtain ⟨t', f', g1, g2, g3⟩ := fnd n hT 0 (by decide) z_0 (L := -1000001) (by decide)
  obtain ⟨q, e, ⟨k1, k2, k3, k4, k5, k6, k7, k8, k9, k10, k11⟩, hr, hv, hs⟩ := hK
  rcases ce n a1 with ⟨x, hx, rfl, c6, c7⟩ | ⟨-, c6, c7⟩
  · obtain ⟨v, w1, w2⟩ := e7_walk n hn (steps := steps) (queue := queue) hr hv hx
    have h7 : fX7_joined n (nI x) r found steps queue = some (sb (jn (hp q) x) 36, found, v.1, v.2) := by
      unfold fX7_joined
      rw [c7]
      simp only [w1, Option.bind_some, Option.elim_some, Option.elim_none, t10, t00, if_true, if_false]
      refine lpb (fun k => (sb (jn (hp q) x) k, nI k)) 36 (sb (jn (hp q) x) 36, nI 36) rfl (fun k hk => ?_) rfl (by omega) rfl
      dsimp +instances only
      rw [if_neg (Kle_F z_36 hk (by decide)), if_pos (vi_N hk (by decide)), nI_clamp (by omega), w2 k hk, z_1, nI_add]
      by_cases h : jn (hp q) x k = true
      · rw [if_neg (by rw [nbI_neg, dsk_iff hk]; simp [h]), sb_T h]
      · rw [if_pos (by rw [nbI_neg, dsk_iff hk]; exact h), sb_F h, Int64.or_zero]
    rw [h7]
    simp only [fX6_joined, c6, e2_pathSet n hn k1 hv, e0_reach n hn (hp q) hx, Option.bind_some, Option.elim_some, Option.elim_none, t10, t00, if_true, if_false]
    exact ⟨_, _, rfl, rfl, rfl, hT⟩
  · simp only [fX6_joined, fX7_joined, c6, c7, g1, g2, Option.bind_some, Option.elim_some, Option.elim_none, t10, t00, if_true, if_false]
    exact ⟨_, _, rfl, rfl, rfl, g3⟩
theorem op_groups (n : Nat) (hn : 100 ≤ n) {p0_paths : Nat → Int32} {p0_water : Int64} {p0_wall : Int64} {p0_kind : Nat → Int32} {p0_place : Nat → Int32} {p0_facing : Nat → Int32} {p0_age : Nat → Int32} {p0_seeds : Int32} {p0_season : Int32} {p0_z : Int32} {p0_spots : Nat → Int32} {r steps queue : Nat → Int32} {b : Nat} (hK : XK p0_paths p0_water p0_wall p0_kind p0_place p0_facing p0_age p0_seeds p0_season p0_z p0_spots r b) :
    ∃ x y, fX6_groups n p0_paths = some x ∧ fX7_groups n r steps queue = some y ∧ x = y.1 := by
  obtain ⟨q, e, ⟨k1, k2, k3, k4, k5, k6, k7, k8, k9, k10, k11⟩, hr, hv, hs⟩ := hK
  obtain ⟨v, w1, w2⟩ := e7_groupsNow n hn (steps := steps) (queue := queue) hr hv
  simp only [fX6_groups, fX7_groups, w1, e2_pathSet n hn k1 hv, e0_countGroups n hn, Option.bind_some, Option.elim_some, Option.elim_none, t10, t00, if_true, if_false]
  exact ⟨_, _, rfl, rfl, w2.symm⟩
theorem op_parts (n : Nat) (hn : 100 ≤ n) {p0_paths : Nat → Int32} {p0_water : Int64} {p0_wall : Int64} {p0_kind : Nat → Int32} {p0_place : Nat → Int32} {p0_facing : Nat → Int32} {p0_age : Nat → Int32} {p0_seeds : Int32} {p0_season : Int32} {p0_z : Int32} {p0_spots : Nat → Int32} {r told found steps queue : Nat → Int32} {b : Nat} (hK : XK p0_paths p0_water p0_wall p0_kind p0_place p0_facing p0_age p0_seeds p0_season p0_z p0_spots r b) (hT : XT told found) (a1 a2 : Int32) :
    ∃ x y, fX6_parts n a1 a2 p0_paths told = some x ∧ fX7_parts n a1 a2 r found steps queue = some y ∧ x.1 = y.1 ∧ y.2.1 = r ∧ XT x.2 y.2.2.1 := by
  obtain ⟨t', f', g1, g2, g3⟩ := fnd n hT 0 (by decide) z_0 (L := -1000001) (by decide)
  obtain ⟨t3, f3, i1, i2, i3⟩ := fnd n hT 3 (by decide) z_3 (L := -1000004) (by decide)
  obtain ⟨q, e, ⟨k1, k2, k3, k4, k5, k6, k7, k8, k9, k10, k11⟩, hr, hv, hs⟩ := hK
  rcases ac n a1 a2 with ⟨x, y, hx, hy, rfl, rfl, c1, c2, c3⟩ | ⟨c1, c3⟩ | ⟨c1, c2, c3⟩
  · obtain ⟨⟨v1, v2, v3, v4⟩, w1, w2, w3⟩ := e7_bridgesOf n hn (steps := steps) (queue := queue) hr hv hx hy
    dsimp only at w2 w3
    subst w2 w3
    have hle := fs_le (cut (hp q) x y) 36
    simp only [fX6_parts, fX7_parts, c1, c2, c3, w1, e2_pathSet n hn k1 hv, e0_cuts n hn (hp q) hx hy, e0_least n hn, e7_fst n hn, Option.bind_some, Option.elim_some, Option.elim_none, t10, t00, if_true, if_false]
    by_cases h : fs (cut (hp q) x y) 36 < 36
    · rw [if_pos (by rw [nbI_pos]; exact h), if_neg (Kle_F z_36 h (by decide)), nbI_T h]
      exact ⟨_, _, rfl, rfl, rfl, rfl, hT⟩
    · rw [if_neg (by rw [nbI_pos]; exact h), if_pos (Kle_T z_36 (by omega) (by omega)), i1, i2]
      exact ⟨_, _, rfl, rfl, rfl, rfl, i3⟩
  · simp only [fX6_parts, fX7_parts, c1, c3, g1, g2, Option.bind_some, Option.elim_some, Option.elim_none, t10, t00, if_true, if_false]
    exact ⟨_, _, rfl, rfl, rfl, rfl, g3⟩
  · simp only [fX6_parts, fX7_parts, c1, c2, c3, g1, g2, Option.bind_some, Option.elim_some, Option.elim_none, t10, t00, if_true, if_false]
    exact ⟨_, _, rfl, rfl, rfl, rfl, g3⟩
theorem op_bridges (n : Nat) (hn : 100 ≤ n) {p0_paths : Nat → Int32} {p0_water : Int64} {p0_wall : Int64} {p0_kind : Nat → Int32} {p0_place : Nat → Int32} {p0_facing : Nat → Int32} {p0_age : Nat → Int32} {p0_seeds : Int32} {p0_season : Int32} {p0_z : Int32} {p0_spots : Nat → Int32} {r told found steps queue : Nat → Int32} {b : Nat} (hK : XK p0_paths p0_water p0_wall p0_kind p0_place p0_facing p0_age p0_seeds p0_season p0_z p0_spots r b) (hT : XT told found) (a1 a2 : Int32) :
    ∃ x y, fX6_bridges n a1 a2 p0_paths told = some x ∧ fX7_bridges n a1 a2 r found steps queue = some y ∧ x.1 = y.1 ∧ y.2.1 = r ∧ XT x.2 y.2.2.1 := by
  obtain ⟨t', f', g1, g2, g3⟩ := fnd n hT 0 (by decide) z_0 (L := -1000001) (by decide)
  obtain ⟨q, e, ⟨k1, k2, k3, k4, k5, k6, k7, k8, k9, k10, k11⟩, hr, hv, hs⟩ := hK
  rcases ac n a1 a2 with ⟨x, y, hx, hy, rfl, rfl, c1, c2, c3⟩ | ⟨c1, c3⟩ | ⟨c1, c2, c3⟩
  · obtain ⟨⟨v1, v2, v3, v4⟩, w1, w2, w3⟩ := e7_bridgesOf n hn (steps := steps) (queue := queue) hr hv hx hy
    dsimp only at w2 w3
    subst w2 w3
    obtain ⟨u, u1, u2⟩ := e7_cnt n hn (cut (hp q) x y)
    simp only [fX6_bridges, fX7_bridges, c1, c2, c3, w1, u1, e2_pathSet n hn k1 hv, e0_cuts n hn (hp q) hx hy, bc_bn, Option.bind_some, Option.elim_some, Option.elim_none, t10, t00, if_true, if_false]
    exact ⟨_, _, rfl, rfl, u2.symm, rfl, hT⟩
  · simp only [fX6_bridges, fX7_bridges, c1, c3, g1, g2, Option.bind_some, Option.elim_some, Option.elim_none, t10, t00, if_true, if_false]
    exact ⟨_, _, rfl, rfl, rfl, rfl, g3⟩
  · simp only [fX6_bridges, fX7_bridges, c1, c2, c3, g1, g2, Option.bind_some, Option.elim_some, Option.elim_none, t10, t00, if_true, if_false]
    exact ⟨_, _, rfl, rfl, rfl, rfl, g3⟩
theorem e2_grassSet (n : Nat) {water wall : Int64} {q : Nat → Nat} {b : Nat} (hw : RS water q 1) (ha : RS wall q 2) (hv : IV b q) : fX2_grassSet n water wall = some (sb (gr q) 36) := by
  unfold fX2_grassSet
  congr 1
  refine sb_of (by decide) fun i hi => ?_
  by_cases h : i < 36
  · rw [bq_grass hw ha hv h]; unfold gr; simp [h]
  · rw [bq_and, bq_all i hi]; simp [h]
theorem op_mend (n : Nat) (hn : 2000 ≤ n) {p0_paths : Nat → Int32} {p0_water : Int64} {p0_wall : Int64} {p0_kind : Nat → Int32} {p0_place : Nat → Int32} {p0_facing : Nat → Int32} {p0_age : Nat → Int32} {p0_seeds : Int32} {p0_season : Int32} {p0_z : Int32} {p0_spots : Nat → Int32} {r told found steps : Nat → Int32} {b : Nat} (hK : XK p0_paths p0_water p0_wall p0_kind p0_place p0_facing p0_age p0_seeds p0_season p0_z p0_spots r b) (hT : XT told found) (a1 a2 : Int32) :
    ∃ x y, fX6_mend n a1 a2 p0_paths p0_water p0_wall told = some x ∧ fX7_mend n a1 a2 r found steps = some y ∧ x.1 = y.1 ∧ XT x.2 y.2.1 := by
  obtain ⟨t', f', g1, g2, g3⟩ := fnd n hT 0 (by decide) z_0 (L := -1000001) (by decide)
  obtain ⟨t3, f3, i1, i2, i3⟩ := fnd n hT 3 (by decide) z_3 (L := -1000004) (by decide)
  obtain ⟨q, e, ⟨k1, k2, k3, k4, k5, k6, k7, k8, k9, k10, k11⟩, hr, hv, hs⟩ := hK
  rcases ac n a1 a2 with ⟨x, y, hx, hy, rfl, rfl, c1, c2, c3⟩ | ⟨c1, c3⟩ | ⟨c1, c2, c3⟩
  · obtain ⟨v, w1, w2⟩ := e7_fewestMore n hn (steps := steps) hr hv hx
    have hle := fs_le (fun k => lvm (hp q) (gr q) x k y) 37
    simp only [fX6_mend, fX7_mend, c1, c2, c3, w1, vi_T hy (show 36 < 2 ^ 31 by decide), nI_clamp (show y < 2 ^ 31 by omega), w2 y hy, e2_pathSet n (by omega) k1 hv, e2_grassSet n k2 k3 hv, e0_fewestNew n (by omega) (hp q) (gr q) hx hy, Option.bind_some, Option.elim_some, Option.elim_none, t10, t00, if_true, if_false]
    by_cases h : mdk (hp q) (gr q) x y < 37
    · rw [if_pos h, if_pos (nI_pos' (by omega)), if_pos (leK_T z_36 (by omega) (by decide))]
      exact ⟨_, _, rfl, rfl, rfl, hT⟩
    · rw [if_neg h, if_neg (by decide), if_neg (leK_F z_36 (by omega) (by unfold mdk; omega)), i1, i2]
      exact ⟨_, _, rfl, rfl, rfl, i3⟩
  · simp only [fX6_mend, fX7_mend, c1, c3, g1, g2, Option.bind_some, Option.elim_some, Option.elim_none, t10, t00, if_true, if_false]
    exact ⟨_, _, rfl, rfl, rfl, g3⟩
  · simp only [fX6_mend, fX7_mend, c1, c2, c3, g1, g2, Option.bind_some, Option.elim_some, Option.elim_none, t10, t00, if_true, if_false]
    exact ⟨_, _, rfl, rfl, rfl, g3⟩
theorem op_weed (n : Nat) (hn : 100 ≤ n) {p0_paths : Nat → Int32} {p0_water : Int64} {p0_wall : Int64} {p0_kind : Nat → Int32} {p0_place : Nat → Int32} {p0_facing : Nat → Int32} {p0_age : Nat → Int32} {p0_seeds : Int32} {p0_season : Int32} {p0_z : Int32} {p0_spots : Nat → Int32} {r told found steps queue : Nat → Int32} {b : Nat} (hK : XK p0_paths p0_water p0_wall p0_kind p0_place p0_facing p0_age p0_seeds p0_season p0_z p0_spots r b) (hT : XT told found) :
    ∃ x y, fX6_weed n p0_paths told = some x ∧ fX7_weed n r found steps queue = some y ∧ x.1 = y.1 ∧ y.2.1 = r ∧ XT x.2 y.2.2.1 := by
  obtain ⟨q, e, ⟨k1, k2, k3, k4, k5, k6, k7, k8, k9, k10, k11⟩, hr, hv, hs⟩ := hK
  obtain ⟨⟨v1, v2, v3, v4, v5⟩, w1, w2, w3⟩ := e7_weedL n hn (steps := steps) (queue := queue) hr hv
  dsimp only at w2 w3
  subst w2 w3
  obtain ⟨t3, f3, w, i1, i2, i3⟩ := orN n hT (bst (hp q) (fun c => gn (wo (hp q) c) 36) 36).1
  have h6 : fX6_weed n p0_paths told = some (w, t3) := by
    unfold fX6_weed
    rw [e2_pathSet n hn k1 hv, Option.bind_some, e6_weedL n hn, Option.bind_some]
    exact i2
  have h7 : fX7_weed n v4 found steps queue = some (w, v4, f3, v5.1, v5.2) := by
    unfold fX7_weed
    rw [w1, Option.bind_some]
    dsimp +instances only
    rw [i3]; rfl
  exact ⟨_, _, h6, h7, rfl, rfl, i1⟩
/-! status, spots, z -/
theorem op_status (n : Nat) (hn : 100 ≤ n) {told found : Nat → Int32} (hT : XT told found) (a1 : Int32) :
    ∃ x y, fX6_status n a1 told = some x ∧ fX7_status n a1 found = some y ∧ x.1 = y.1 ∧ XT x.2 y.2 := by
  obtain ⟨t', f', g1, g2, g3⟩ := fnd n hT 0 (by decide) z_0 (L := -1000001) (by decide)
  by_cases hm : a1 = m1
  · subst hm
    obtain ⟨T, h1, h2⟩ := hT
    have w6 : fX6_within n m1 (-1 : Int32) (6 : Int32) = some (nI 1) := by unfold fX6_within; rw [if_neg (by decide), if_neg (by decide)]; rfl
    have w7 : fX7_within n m1 (-1 : Int32) (6 : Int32) = some (nI 1) := w6
    have h6 : fX6_status n m1 told = some (nI (sm T 7), told) := by
      unfold fX6_status
      rw [w6, Option.bind_some, if_neg (by decide), if_pos (by decide)]
      refine lpb (fun k => (nI (sm T k), nI k)) 7 (nI (sm T 7), nI 7) rfl (fun k hk => ?_) rfl (by omega) rfl
      dsimp +instances only
      rw [if_neg (Kle_F z_7 hk (by decide)), if_pos (vi_N hk (by decide)), nI_clamp (by omega), (h1 k hk).1, z_1, nI_add, nI_add]; rfl
    have h7 : fX7_status n m1 found = some (found 0, found) := by
      unfold fX7_status
      rw [w7, Option.bind_some, if_neg (by decide), if_pos (by decide)]; rfl
    exact ⟨_, _, h6, h7, h2.symm, T, h1, h2⟩
  · rcases wi n (a := a1) 0 6 z_0 z_6 (by decide) (by decide) with ⟨w, -, hw, rfl, w6, w7⟩ | ⟨hd, w6, w7⟩
    · have v6 : fX6_within n (nI w) (-1 : Int32) (6 : Int32) = some (nI 1) := by
        unfold fX6_within; rw [z_m1, if_neg (by rw [m1_nlt _ (by omega)]; exact id), if_neg (Klt_F z_6 hw (by decide))]; rfl
      have v7 : fX7_within n (nI w) (-1 : Int32) (6 : Int32) = some (nI 1) := v6
      obtain ⟨T, h1, h2⟩ := hT
      have h6 : fX6_status n (nI w) told = some (told w, told) := by
        unfold fX6_status
        rw [v6, Option.bind_some, if_neg (by decide), if_neg (nI_pos (by omega)), e6_at n (by omega) (by decide)]; rfl
      have h7 : fX7_status n (nI w) found = some (found (w + 1), found) := by
        unfold fX7_status
        rw [v7, Option.bind_some, if_neg (by decide), z_1, nI_add, if_pos (vi_N (show w + 1 < 8 by omega) (by decide)), nI_clamp (by omega)]
      exact ⟨_, _, h6, h7, by rw [(h1 w (by omega)).1, (h1 w (by omega)).2], T, h1, h2⟩
    · have v6 : fX6_within n a1 (-1 : Int32) (6 : Int32) = some (nI 0) := by
        refine e6_withinB n (hd.elim (fun h => Or.inl ?_) Or.inr)
        have h3 : a1.toInt ≠ -1 := fun h4 => hm (Int32.toInt_inj.mp (by rw [h4, m1_int]))
        rw [Int32.lt_iff_toInt_lt, nI_toInt (by decide)] at h
        rw [z_m1, Int32.lt_iff_toInt_lt, m1_int]; omega
      have v7 : fX7_within n a1 (-1 : Int32) (6 : Int32) = some (nI 0) := v6
      simp only [fX6_status, fX7_status, v6, v7, g1, g2, Option.bind_some, Option.elim_some, Option.elim_none, t10, t00, if_true, if_false]
      exact ⟨_, _, rfl, rfl, rfl, g3⟩
theorem CP.spots {p0_paths : Nat → Int32} {p0_water : Int64} {p0_wall : Int64} {p0_kind : Nat → Int32} {p0_place : Nat → Int32} {p0_facing : Nat → Int32} {p0_age : Nat → Int32} {p0_seeds : Int32} {p0_season : Int32} {p0_z : Int32} {p0_spots : Nat → Int32} {q : Nat → Nat} {e : Nat → Int32} (k : CP p0_paths p0_water p0_wall p0_kind p0_place p0_facing p0_age p0_seeds p0_season p0_z p0_spots q e) (c : Nat) (x : Int32) : CP p0_paths p0_water p0_wall p0_kind p0_place p0_facing p0_age p0_seeds p0_season p0_z (upd p0_spots c x) q (upd e (3 + c) x) := by
  obtain ⟨k1, k2, k3, k4, k5, k6, k7, k8, k9, k10, k11⟩ := k
  refine ⟨k1, k2, k3, k4, k5, k6, k7, k8, k9, by rw [upd_F (by omega)]; exact k10, fun i hi => ?_⟩
  by_cases h : i = c
  · subst h; rw [upd_T rfl, upd_T rfl]
  · rw [upd_F (by omega), upd_F (by omega)]; exact k11 i hi
theorem RM.upE {r : Nat → Int32} {q : Nat → Nat} {e : Nat → Int32} (h : RM r q e) {i : Nat} (x : Int32) (h2 : 2 ≤ i ∧ i < 13) : RM (upd r i x) q (upd e i x) := by
  intro j hj
  by_cases c : j = i
  · subst c; rw [upd_T rfl, if_pos h2, upd_T rfl]
  · rw [upd_F (by omega), upd_F (by omega), h j hj]
theorem op_hold (n : Nat) {p0_paths : Nat → Int32} {p0_water : Int64} {p0_wall : Int64} {p0_kind : Nat → Int32} {p0_place : Nat → Int32} {p0_facing : Nat → Int32} {p0_age : Nat → Int32} {p0_seeds : Int32} {p0_season : Int32} {p0_z : Int32} {p0_spots : Nat → Int32} {r told found : Nat → Int32} {b : Nat} (hK : XK p0_paths p0_water p0_wall p0_kind p0_place p0_facing p0_age p0_seeds p0_season p0_z p0_spots r b) (hT : XT told found) (a1 a2 : Int32) :
    ∃ x y, fX6_hold n a1 a2 p0_seeds p0_spots told = some x ∧ fX7_hold n a1 a2 r found = some y ∧ x.1 = y.1 ∧ XK p0_paths p0_water p0_wall p0_kind p0_place p0_facing p0_age p0_seeds p0_season p0_z x.2.1 y.2.1 b ∧ XT x.2.2 y.2.2 := by
  obtain ⟨t', f', g1, g2, g3⟩ := fnd n hT 0 (by decide) z_0 (L := -1000001) (by decide)
  rcases wi n (a := a1) 0 9 z_0 z_9 (by decide) (by decide) with ⟨c, -, hc, rfl, w6, w7⟩ | ⟨-, w6, w7⟩
  · have s7 : fX7_isSpot n (nI c) = some (nI 1) := by unfold fX7_isSpot; rw [w7]; rfl
    have hK' := hK
    obtain ⟨q, e, kk, hr, hv, hs⟩ := hK'
    have v1 : vi (nI (3 + c)) 117 := vi_N (by omega) (by decide)
    have key : ∀ x, (x = m1 ∨ ∃ s, s < q 1 ∧ x = nI s) → XK p0_paths p0_water p0_wall p0_kind p0_place p0_facing p0_age p0_seeds p0_season p0_z (upd p0_spots c x) (upd r (3 + c) x) b := by
      intro x hx
      refine ⟨q, _, kk.spots c x, hr.upE x (by omega), hv, fun i hi => ?_⟩
      by_cases h : i = c
      · subst h; rw [upd_T rfl]; exact hx
      · rw [upd_F (by omega)]; exact hs i hi
    have pu : ∀ x, fX6_put n 10 (nI c) x p0_spots = some (upd p0_spots c x) := fun x => e6_put n (by omega) (by decide)
    by_cases hm : a2 = -1
    · simp only [fX6_hold, fX7_hold, w6, s7, if_pos hm, pu, z_3, nI_add, if_pos v1, nI_clamp (show 3 + c < 2 ^ 31 by omega), Option.bind_some, Option.elim_some, Option.elim_none, t10, t00, if_true, if_false]
      exact ⟨_, _, rfl, rfl, rfl, key a2 (Or.inl hm), hT⟩
    · rcases sd n (a := a2) hr hv.1 kk.2.2.2.2.2.2.2.1 with ⟨s, hs1, rfl, c6, c7⟩ | ⟨c6, c7⟩
      · simp only [fX6_hold, fX7_hold, w6, s7, if_neg hm, c6, c7, pu, z_3, nI_add, if_pos v1, nI_clamp (show 3 + c < 2 ^ 31 by omega), Option.bind_some, Option.elim_some, Option.elim_none, t10, t00, if_true, if_false]
        exact ⟨_, _, rfl, rfl, rfl, key _ (Or.inr ⟨s, hs1, rfl⟩), hT⟩
      · simp only [fX6_hold, fX7_hold, w6, s7, if_neg hm, c6, c7, g1, g2, Option.bind_some, Option.elim_some, Option.elim_none, t10, t00, if_true, if_false]
        exact ⟨_, _, rfl, rfl, rfl, hK, g3⟩
  · have s7 : fX7_isSpot n a1 = some (nI 0) := by unfold fX7_isSpot; rw [w7]; rfl
    simp only [fX6_hold, fX7_hold, w6, s7, g1, g2, Option.bind_some, Option.elim_some, Option.elim_none, t10, t00, if_true, if_false]
    exact ⟨_, _, rfl, rfl, rfl, hK, g3⟩
theorem t_isA : ∀ k, k < 7 → ∀ o, o < 7 → fX3_isA 20 0 (nI o) (fun _ => nI k) = fX7_isUnder 20 (nI k) (nI o) ∧ (fX7_isUnder 20 (nI k) (nI o) = some (nI 0) ∨ fX7_isUnder 20 (nI k) (nI o) = some (nI 1)) := by decide +kernel
theorem isA_up (n : Nat) (hn : 20 ≤ n) {j : Nat} {kind : Nat → Int32} {k o : Nat} (hk : k < 7) (ho : o < 7) (hj : kind j = nI k) : ∃ v, v < 2 ∧ fX3_isA n j (nI o) kind = some (nI v) ∧ fX7_isUnder n (nI k) (nI o) = some (nI v) := by
  obtain ⟨h1, h2⟩ := t_isA k hk o ho
  obtain ⟨v, hv, h3⟩ : ∃ v, v < 2 ∧ fX7_isUnder 20 (nI k) (nI o) = some (nI v) := by
    rcases h2 with h | h
    · exact ⟨0, by decide, h⟩
    · exact ⟨1, by decide, h⟩
  rw [h3] at h1
  refine ⟨v, hv, ?_, ?_⟩
  · unfold fX3_isA at h1 ⊢
    rw [hj]
    obtain ⟨w, a1, a2⟩ := bd_some h1
    exact Eq.trans (congrArg (fun z => Option.bind z (fun (v2 : Int32 × Int32) => if v2.1 = nI o then some (1 : Int32) else some (0 : Int32))) (lp_mono a1 hn)) a2
  · unfold fX7_isUnder at h3 ⊢
    obtain ⟨w, a1, a2⟩ := bd_some h3
    exact Eq.trans (congrArg (fun z => Option.bind z (fun (v2 : Int32) => if v2 < 0 then some (0 : Int32) else some (1 : Int32))) (lp_mono a1 hn)) a2
theorem op_as (n : Nat) (hn : 100 ≤ n) {p0_paths : Nat → Int32} {p0_water : Int64} {p0_wall : Int64} {p0_kind : Nat → Int32} {p0_place : Nat → Int32} {p0_facing : Nat → Int32} {p0_age : Nat → Int32} {p0_seeds : Int32} {p0_season : Int32} {p0_z : Int32} {p0_spots : Nat → Int32} {r told found : Nat → Int32} {b : Nat} (hK : XK p0_paths p0_water p0_wall p0_kind p0_place p0_facing p0_age p0_seeds p0_season p0_z p0_spots r b) (hT : XT told found) (a1 a2 : Int32) :
    ∃ x y, fX6_as n a1 a2 p0_kind p0_seeds p0_spots told = some x ∧ fX7_as n a1 a2 r found = some y ∧ x.1 = y.1 ∧ XT x.2 y.2 := by
  obtain ⟨t', f', g1, g2, g3⟩ := fnd n hT 0 (by decide) z_0 (L := -1000001) (by decide)
  obtain ⟨t5, f5, i1, i2, i3⟩ := fnd n hT 5 (by decide) z_5 (L := -1000006) (by decide)
  obtain ⟨t2, f2, j1, j2, j3⟩ := fnd n hT 2 (by decide) z_2 (L := -1000003) (by decide)
  rcases wi n (a := a1) 0 9 z_0 z_9 (by decide) (by decide) with ⟨c, -, hc, rfl, w6, w7⟩ | ⟨-, w6, w7⟩
  · have s7 : fX7_isSpot n (nI c) = some (nI 1) := by unfold fX7_isSpot; rw [w7]; rfl
    rcases kd n a2 with ⟨o, ho, rfl, d6, d7⟩ | ⟨-, d6, d7⟩
    · obtain ⟨q, e, ⟨k1, k2, k3, k4, k5, k6, k7, k8, k9, k10, k11⟩, hr, hv, hs⟩ := hK
      have h8 := hv.1
      have v1 : vi (nI (3 + c)) 117 := vi_N (by omega) (by decide)
      have hsp : fX6_at n 10 (nI c) p0_spots = some (e (3 + c)) := by rw [e6_at n (by omega) (by decide), k11 c (by omega)]
      have hre : r (3 + c) = e (3 + c) := by rw [hr (3 + c) (by omega), if_pos (by omega)]
      subst k8
      rcases hs c (by omega) with hm | ⟨s, hs1, hm⟩
      · have c6 : fX2_seedAt n m1 (nI (q 1)) = some none := e2_seedAtB n h8 (Or.inl (by decide))
        have h0 : (0 ≤ m1) = False := eq_false (by decide)
        rw [hm] at hsp hre
        simp only [fX6_as, fX7_as, w6, s7, d6, d7, hsp, c6, z_3, nI_add, if_pos v1, nI_clamp (show 3 + c < 2 ^ 31 by omega), hre, h0, Option.bind_some, Option.elim_some, Option.elim_none, t10, t00, if_true, if_false]
        have i1' := i1
        rw [show (5 : Int32) = nI 5 from rfl] at i1'
        simp only [i1, i2, Option.bind_some]
        exact ⟨_, _, rfl, rfl, rfl, i3⟩
      · have c6 : fX2_seedAt n (nI s) (nI (q 1)) = some (some s) := e2_seedAt n hs1 h8
        have h0 : (0 ≤ nI s) = True := eq_true (nI_pos' (by omega))
        have hk7 : q (85 + 4 * s) < 7 := by have := (hv.2.2.2 s (by omega)).1; omega
        obtain ⟨v, hv2, a6, a7⟩ := isA_up n (by omega) hk7 ho (k4.k0 (show s < 8 by omega))
        have sI : fX7_seedIs n (nI s) (0 : Int32) r = some (nI (q (85 + 4 * s))) := e7_seedIs n hr (show s < 8 by omega) (by decide : 0 < 4)
        rw [hm] at hsp hre
        have hcase : v = 0 ∨ v = 1 := by omega
        rcases hcase with rfl | rfl
        · simp only [fX6_as, fX7_as, w6, s7, d6, d7, hsp, c6, show (3 : Int32) = nI 3 from rfl, nI_add, if_pos v1, nI_clamp (show 3 + c < 2 ^ 31 by omega), hre, h0, a6, a7, sI, j1, j2, Option.bind_some, Option.elim_some, Option.elim_none, t10, t00, if_true, if_false]
          exact ⟨_, _, rfl, rfl, rfl, j3⟩
        · simp only [fX6_as, fX7_as, w6, s7, d6, d7, hsp, c6, show (3 : Int32) = nI 3 from rfl, nI_add, if_pos v1, nI_clamp (show 3 + c < 2 ^ 31 by omega), hre, h0, a6, a7, sI, Option.bind_some, Option.elim_some, Option.elim_none, t10, t00, if_true, if_false]
          exact ⟨_, _, rfl, rfl, rfl, hT⟩
    · simp only [fX6_as, fX7_as, w6, s7, d6, d7, g1, g2, Option.bind_some, Option.elim_some, Option.elim_none, t10, t00, if_true, if_false]
      exact ⟨_, _, rfl, rfl, rfl, g3⟩
  · have s7 : fX7_isSpot n a1 = some (nI 0) := by unfold fX7_isSpot; rw [w7]; rfl
    simp only [fX6_as, fX7_as, w6, s7, g1, g2, Option.bind_some, Option.elim_some, Option.elim_none, t10, t00, if_true, if_false]
    exact ⟨_, _, rfl, rfl, rfl, g3⟩
theorem CP.z {p0_paths : Nat → Int32} {p0_water : Int64} {p0_wall : Int64} {p0_kind : Nat → Int32} {p0_place : Nat → Int32} {p0_facing : Nat → Int32} {p0_age : Nat → Int32} {p0_seeds : Int32} {p0_season : Int32} {p0_z : Int32} {p0_spots : Nat → Int32} {q : Nat → Nat} {e : Nat → Int32} (k : CP p0_paths p0_water p0_wall p0_kind p0_place p0_facing p0_age p0_seeds p0_season p0_z p0_spots q e) (x : Int32) : CP p0_paths p0_water p0_wall p0_kind p0_place p0_facing p0_age p0_seeds p0_season x p0_spots q (upd e 2 x) := by
  obtain ⟨k1, k2, k3, k4, k5, k6, k7, k8, k9, k10, k11⟩ := k
  exact ⟨k1, k2, k3, k4, k5, k6, k7, k8, k9, upd_at.symm, fun i hi => by rw [upd_F (by omega)]; exact k11 i hi⟩
theorem SPT.z {e : Nat → Int32} {k : Nat} (h : SPT e k) (x : Int32) : SPT (upd e 2 x) k := fun i hi => by rw [upd_F (by omega)]; exact h i hi
theorem op_seed (n : Nat) {p0_paths : Nat → Int32} {p0_water : Int64} {p0_wall : Int64} {p0_kind : Nat → Int32} {p0_place : Nat → Int32} {p0_facing : Nat → Int32} {p0_age : Nat → Int32} {p0_seeds : Int32} {p0_season : Int32} {p0_z : Int32} {p0_spots : Nat → Int32} {r : Nat → Int32} {b : Nat} (hK : XK p0_paths p0_water p0_wall p0_kind p0_place p0_facing p0_age p0_seeds p0_season p0_z p0_spots r b) (a1 : Int32) :
    ∃ x y, fX6_seed n a1 p0_z = some x ∧ fX7_seed n a1 r = some y ∧ x.1 = y.1 ∧ XK p0_paths p0_water p0_wall p0_kind p0_place p0_facing p0_age p0_seeds p0_season x.2 p0_spots y.2 b := by
  obtain ⟨q, e, kk, hr, hv, hs⟩ := hK
  have k10 : p0_z = e 2 := kk.2.2.2.2.2.2.2.2.2.1
  have h2 : (2 : Int32).toNatClampNeg = 2 := by decide
  have h7 : fX7_seed n a1 r = some (r 2, upd r 2 a1) := by
    unfold fX7_seed fX7_become
    rw [if_pos (by decide), if_pos (by decide), h2]; rfl
  have h6 : fX6_seed n a1 p0_z = some (p0_z, a1) := rfl
  refine ⟨_, _, h6, h7, by rw [k10, hr 2 (by decide), if_pos (by decide)], q, _, kk.z a1, hr.upE a1 (by decide), hv, hs.z a1⟩
theorem op_tear (n : Nat) (k : Int32) (hk : k = 0 ∨ k = 1) : ∃ x y, fX6_tear n k = some x ∧ fX7_tear n k = some y ∧ x.1 = y.1 ∧ x.2 = 0 ∧ y.2 = 0 := by
  unfold fX6_tear fX7_tear
  rcases hk with rfl | rfl
  · exact ⟨_, _, rfl, rfl, rfl, rfl, rfl⟩
  · exact ⟨_, _, rfl, rfl, rfl, rfl, rfl⟩
