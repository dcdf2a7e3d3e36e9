/-! what will be: the class's trial, the reference's aside -/
theorem RM.eqv {r r' : Nat → Int32} {q : Nat → Nat} {e : Nat → Int32} (h : RM r q e) (h2 : ∀ i, i < 117 → r' i = r i) : RM r' q e := fun i hi => by rw [h2 i hi]; exact h i hi
theorem e7_copyRow (n : Nat) (hn : 200 ≤ n) (row vals : Nat → Int32) : ∃ v, fX7_copyRow n 117 117 row vals = some v ∧ ∀ i, i < 117 → v i = vals i := by
  unfold fX7_copyRow
  refine lpx (fun k s => ∃ f, s = (nI k, f) ∧ ∀ i, i < k → f i = vals i) 117 (fun v => ∀ i, i < 117 → v.2 i = vals i) ⟨_, rfl, fun i hi => absurd hi (Nat.not_lt_zero _)⟩ (fun k s hk hI => ?_) (fun s hI => ?_) (by omega) (fun v hX => ⟨_, rfl, hX⟩)
  · obtain ⟨f, rfl, hf⟩ := hI
    dsimp +instances only
    rw [if_neg (Kle_F z_117 hk (by decide)), if_pos (vi_N hk (by decide)), if_pos (vi_N hk (by decide)), nI_clamp (by omega), z_1, nI_add]
    refine ⟨_, rfl, _, rfl, fun i hi => ?_⟩
    by_cases e : i = k
    · subst e; rw [upd_T rfl]
    · rw [upd_F (by omega)]; exact hf i (by omega)
  · obtain ⟨f, rfl, hf⟩ := hI
    exact ⟨_, rfl, hf⟩
theorem e6_putAll (n N : Nat) (hN : N < 2 ^ 31) (row vals : Nat → Int32) : ∃ v, fX6_putAll n N N row vals = some v ∧ ∀ i, i < N → v i = vals i := by
  unfold fX6_putAll
  have h0 : (0 : Int32).toNatClampNeg = 0 := by decide
  rw [if_neg (nI_nlt (Nat.le_refl N) hN), if_pos (nI_pos hN), nI_clamp hN, h0, if_pos (by omega), if_pos (by omega)]
  exact ⟨_, rfl, fun i hi => by rw [pk_cpy_in (by omega) (by omega)]; congr 1; omega⟩
theorem CP_copyFrom (n : Nat) (hn : 200 ≤ n) {p0_paths : Nat → Int32} {p0_water : Int64} {p0_wall : Int64} {p0_kind : Nat → Int32} {p0_place : Nat → Int32} {p0_facing : Nat → Int32} {p0_age : Nat → Int32} {p0_seeds : Int32} {p0_season : Int32} {p0_z : Int32} {p0_spots : Nat → Int32} {p1_paths : Nat → Int32} {p1_water : Int64} {p1_wall : Int64} {p1_kind : Nat → Int32} {p1_place : Nat → Int32} {p1_facing : Nat → Int32} {p1_age : Nat → Int32} {p1_seeds : Int32} {p1_season : Int32} {p1_z : Int32} {p1_spots : Nat → Int32} {q : Nat → Nat} {e : Nat → Int32} (kk : CP p0_paths p0_water p0_wall p0_kind p0_place p0_facing p0_age p0_seeds p0_season p0_z p0_spots q e) : ∃ v, fX2_copyFrom n p1_paths p1_water p1_wall p1_kind p1_place p1_facing p1_age p1_seeds p1_season p1_z p1_spots p0_paths p0_water p0_wall p0_kind p0_place p0_facing p0_age p0_seeds p0_season p0_z p0_spots = some v ∧ CP v.1 v.2.1 v.2.2.1 v.2.2.2.1 v.2.2.2.2.1 v.2.2.2.2.2.1 v.2.2.2.2.2.2.1 v.2.2.2.2.2.2.2.1 v.2.2.2.2.2.2.2.2.1 v.2.2.2.2.2.2.2.2.2.1 v.2.2.2.2.2.2.2.2.2.2 q e := by
  obtain ⟨k1, k2, k3, k4, k5, k6, k7, k8, k9, k10, k11⟩ := kk
  obtain ⟨P, p1, p2⟩ := e6_putAll n 36 (by decide) p1_paths p0_paths
  obtain ⟨S, s1, s2⟩ := e6_putAll n 10 (by decide) p1_spots p0_spots
  unfold fX2_copyFrom
  rw [p1, Option.bind_some, s1, Option.bind_some]
  refine lpx (fun k s => ∃ K L F A, s = (nI k, K, L, F, A) ∧ ∀ i, i < k → K i = p0_kind i ∧ L i = p0_place i ∧ F i = p0_facing i ∧ A i = p0_age i) 8 (fun v => ∀ i, i < 8 → v.2.1 i = p0_kind i ∧ v.2.2.1 i = p0_place i ∧ v.2.2.2.1 i = p0_facing i ∧ v.2.2.2.2 i = p0_age i) ⟨_, _, _, _, rfl, fun i hi => absurd hi (Nat.not_lt_zero _)⟩ (fun k s hk hI => ?_) (fun s hI => ?_) (by omega) (fun v hX => ⟨_, rfl, ?_⟩)
  · obtain ⟨K, L, F, A, rfl, hf⟩ := hI
    dsimp +instances only
    rw [if_neg (Kle_F z_8 hk (by decide)), e2_sownAt n hk]
    simp only [Option.bind_some, Option.elim_some, fX3_mirror]
    rw [z_1, nI_add]
    refine ⟨_, rfl, _, _, _, _, rfl, fun i hi => ?_⟩
    by_cases ei : i = k
    · subst ei; rw [upd_T rfl, upd_T rfl, upd_T rfl, upd_T rfl]; exact ⟨rfl, rfl, rfl, rfl⟩
    · rw [upd_F (by omega), upd_F (by omega), upd_F (by omega), upd_F (by omega)]; exact hf i (by omega)
  · obtain ⟨K, L, F, A, rfl, hf⟩ := hI
    exact ⟨_, rfl, hf⟩
  · refine ⟨fun c hc => by rw [← k1 c hc]; exact p2 c hc, k2, k3, fun s hs => by rw [← k4 s hs]; exact (hX s hs).1, fun s hs => by rw [← k5 s hs]; exact (hX s hs).2.1, fun s hs => by rw [← k6 s hs]; exact (hX s hs).2.2.1, fun s hs => by rw [← k7 s hs]; exact (hX s hs).2.2.2, k8, k9, k10, fun i hi => by rw [← k11 i hi]; exact s2 i hi⟩
theorem CP_copyWith (n : Nat) (hn : 200 ≤ n) {p0_paths : Nat → Int32} {p0_water : Int64} {p0_wall : Int64} {p0_kind : Nat → Int32} {p0_place : Nat → Int32} {p0_facing : Nat → Int32} {p0_age : Nat → Int32} {p0_seeds : Int32} {p0_season : Int32} {p0_z : Int32} {p0_spots : Nat → Int32} {p1_paths : Nat → Int32} {p1_water : Int64} {p1_wall : Int64} {p1_kind : Nat → Int32} {p1_place : Nat → Int32} {p1_facing : Nat → Int32} {p1_age : Nat → Int32} {p1_seeds : Int32} {p1_season : Int32} {p1_z : Int32} {p1_spots : Nat → Int32} {q : Nat → Nat} {e : Nat → Int32} (kk : CP p0_paths p0_water p0_wall p0_kind p0_place p0_facing p0_age p0_seeds p0_season p0_z p0_spots q e) (h8 : q 1 ≤ 8) {s f v : Nat} (hs : s < q 1) (hf : f < 4) : ∃ x, fX2_copyWith n (nI s) (nI f) (nI v) p1_paths p1_water p1_wall p1_kind p1_place p1_facing p1_age p1_seeds p1_season p1_z p1_spots p0_paths p0_water p0_wall p0_kind p0_place p0_facing p0_age p0_seeds p0_season p0_z p0_spots = some x ∧ CP x.1 x.2.1 x.2.2.1 x.2.2.2.1 x.2.2.2.2.1 x.2.2.2.2.2.1 x.2.2.2.2.2.2.1 x.2.2.2.2.2.2.2.1 x.2.2.2.2.2.2.2.2.1 x.2.2.2.2.2.2.2.2.2.1 x.2.2.2.2.2.2.2.2.2.2 (upq q (85 + 4 * s + f) v) e := by
  obtain ⟨w, w1, w2⟩ := CP_copyFrom n hn kk (p1_paths := p1_paths) (p1_water := p1_water) (p1_wall := p1_wall) (p1_kind := p1_kind) (p1_place := p1_place) (p1_facing := p1_facing) (p1_age := p1_age) (p1_seeds := p1_seeds) (p1_season := p1_season) (p1_z := p1_z) (p1_spots := p1_spots)
  have hsd : w.2.2.2.2.2.2.2.1 = nI (q 1) := w2.2.2.2.2.2.2.2.1
  obtain ⟨x, x1, -, x3⟩ := CP_replace n w2 (show s < 8 by omega) hf (v := v)
  unfold fX2_copyWith
  rw [w1, Option.bind_some, hsd, e2_seedAt n hs h8, Option.bind_some, Option.elim_some, x1, Option.bind_some]
  exact ⟨_, rfl, by rw [← hsd]; exact x3⟩
/-- the reference's row, with what is thought in it and put back -/
theorem e7_behind (n : Nat) (hn : 200 ≤ n) {N p : Nat} (hN : N ≤ 60) (hp : p < 117) (hp2 : p < 2 ∨ 13 ≤ p) {r aside lives treads : Nat → Int32} {q : Nat → Nat} {e : Nat → Int32} {b : Nat} (hr : RM r q e) (hl : LV lives) (ht : TR treads) (hv : IV b q) (hb : b < 99000) :
    ∃ v, fX7_behind n (nI p) (nI N) r aside lives treads = some v ∧ v.1 = nI (its N q p) ∧ RM v.2.1 q e := by
  obtain ⟨a, a1, a2⟩ := e7_copyRow n hn aside r
  obtain ⟨r', r1, r2⟩ := e7_seasons n (by omega) hN hr hl ht hv hb
  obtain ⟨c, c1, c2⟩ := e7_copyRow n hn r' a
  unfold fX7_behind fX7_putBack
  rw [a1, Option.bind_some, r1, Option.bind_some, if_pos (vi_N hp (by decide)), c1, nI_clamp (by omega)]
  exact ⟨_, rfl, r2.at p hp hp2, hr.eqv fun i hi => (c2 i hi).trans (a2 i hi)⟩
theorem e7_pathsBehind (n : Nat) (hn : 200 ≤ n) {N : Nat} (hN : N ≤ 60) {r aside lives treads : Nat → Int32} {q : Nat → Nat} {e : Nat → Int32} {b : Nat} (hr : RM r q e) (hl : LV lives) (ht : TR treads) (hv : IV b q) (hb : b < 99000) :
    ∃ v, fX7_pathsBehind n (nI N) r aside lives treads = some v ∧ v.1 = nI (ct (hp (its N q)) 36) ∧ RM v.2.1 q e := by
  obtain ⟨a, a1, a2⟩ := e7_copyRow n hn aside r
  obtain ⟨r', r1, r2⟩ := e7_seasons n (by omega) hN hr hl ht hv hb
  obtain ⟨c, c1, c2⟩ := e7_copyRow n hn r' a
  unfold fX7_pathsBehind fX7_putBack
  rw [a1, Option.bind_some, r1, Option.bind_some, e7_pathsNow n (by omega) r2 (its_k hv N).1, Option.bind_some, c1]
  exact ⟨_, rfl, rfl, hr.eqv fun i hi => (c2 i hi).trans (a2 i hi)⟩
theorem op_ahead (n : Nat) (hn : 200 ≤ n) {p0_paths : Nat → Int32} {p0_water : Int64} {p0_wall : Int64} {p0_kind : Nat → Int32} {p0_place : Nat → Int32} {p0_facing : Nat → Int32} {p0_age : Nat → Int32} {p0_seeds : Int32} {p0_season : Int32} {p0_z : Int32} {p0_spots : Nat → Int32} {p1_paths : Nat → Int32} {p1_water : Int64} {p1_wall : Int64} {p1_kind : Nat → Int32} {p1_place : Nat → Int32} {p1_facing : Nat → Int32} {p1_age : Nat → Int32} {p1_seeds : Int32} {p1_season : Int32} {p1_z : Int32} {p1_spots : Nat → Int32} {r aside told found lives treads : Nat → Int32} {b : Nat} (hK : XK p0_paths p0_water p0_wall p0_kind p0_place p0_facing p0_age p0_seeds p0_season p0_z p0_spots r b) (hb : b < 99000) (hT : XT told found) (hl : LV lives) (ht : TR treads) (a1 a2 : Int32) :
    ∃ x y, fX6_ahead n a1 a2 p0_paths p0_water p0_wall p0_kind p0_place p0_facing p0_age p0_seeds p0_season p0_z p0_spots p1_paths p1_water p1_wall p1_kind p1_place p1_facing p1_age p1_seeds p1_season p1_z p1_spots told = some x ∧ fX7_ahead n a1 a2 r aside found lives treads = some y ∧ x.1 = y.1 ∧ XK p0_paths p0_water p0_wall p0_kind p0_place p0_facing p0_age p0_seeds p0_season p0_z p0_spots y.2.1 b ∧ XT x.2.2.2.2.2.2.2.2.2.2.2.2 y.2.2.2 := by
  obtain ⟨t', f', g1, g2, g3⟩ := fnd n hT 0 (by decide) z_0 (L := -1000001) (by decide)
  rcases ce n a1 with ⟨c, hc, rfl, c6, c7⟩ | ⟨-, c6, c7⟩
  · rcases wi n (a := a2) 0 60 z_0 z_60 (by decide) (by decide) with ⟨N, -, hN, rfl, w6, w7⟩ | ⟨-, w6, w7⟩
    · obtain ⟨q, e, kk, hr, hv, hs⟩ := hK
      obtain ⟨v, v1, v2⟩ := CP_copyFrom n hn kk (p1_paths := p1_paths) (p1_water := p1_water) (p1_wall := p1_wall) (p1_kind := p1_kind) (p1_place := p1_place) (p1_facing := p1_facing) (p1_age := p1_age) (p1_seeds := p1_seeds) (p1_season := p1_season) (p1_z := p1_z) (p1_spots := p1_spots)
      obtain ⟨w, w1, w2⟩ := CP_pass n (by omega) v2 hv hb hN
      obtain ⟨y, y1, y2, y3⟩ := e7_behind n hn hN (show 49 + c < 117 by omega) (by omega) (aside := aside) hr hl ht hv hb
      have hpo := e2_pathOf n w2.1 hc
      simp only [fX6_ahead, fX7_ahead, c6, c7, w6, w7, v1, w1, hpo, z_49, nI_add, y1, Option.bind_some, Option.elim_some, Option.elim_none, t10, t00, if_true, if_false]
      exact ⟨_, _, rfl, rfl, y2.symm, ⟨q, e, kk, y3, hv, hs⟩, hT⟩
    · simp only [fX6_ahead, fX7_ahead, c6, c7, w6, w7, g1, g2, Option.bind_some, Option.elim_some, Option.elim_none, t10, t00, if_true, if_false]
      exact ⟨_, _, rfl, rfl, rfl, hK, g3⟩
  · simp only [fX6_ahead, fX7_ahead, c6, c7, g1, g2, Option.bind_some, Option.elim_some, Option.elim_none, t10, t00, if_true, if_false]
    exact ⟨_, _, rfl, rfl, rfl, hK, g3⟩
theorem op_head (n : Nat) (hn : 200 ≤ n) {p0_paths : Nat → Int32} {p0_water : Int64} {p0_wall : Int64} {p0_kind : Nat → Int32} {p0_place : Nat → Int32} {p0_facing : Nat → Int32} {p0_age : Nat → Int32} {p0_seeds : Int32} {p0_season : Int32} {p0_z : Int32} {p0_spots : Nat → Int32} {p1_paths : Nat → Int32} {p1_water : Int64} {p1_wall : Int64} {p1_kind : Nat → Int32} {p1_place : Nat → Int32} {p1_facing : Nat → Int32} {p1_age : Nat → Int32} {p1_seeds : Int32} {p1_season : Int32} {p1_z : Int32} {p1_spots : Nat → Int32} {r aside told found lives treads : Nat → Int32} {b : Nat} (hK : XK p0_paths p0_water p0_wall p0_kind p0_place p0_facing p0_age p0_seeds p0_season p0_z p0_spots r b) (hb : b < 99000) (hT : XT told found) (hl : LV lives) (ht : TR treads) (a1 a2 : Int32) :
    ∃ x y, fX6_head n a1 a2 p0_paths p0_water p0_wall p0_kind p0_place p0_facing p0_age p0_seeds p0_season p0_z p0_spots p1_paths p1_water p1_wall p1_kind p1_place p1_facing p1_age p1_seeds p1_season p1_z p1_spots told = some x ∧ fX7_head n a1 a2 r aside found lives treads = some y ∧ x.1 = y.1 ∧ XK p0_paths p0_water p0_wall p0_kind p0_place p0_facing p0_age p0_seeds p0_season p0_z p0_spots y.2.1 b ∧ XT x.2.2.2.2.2.2.2.2.2.2.2.2 y.2.2.2 := by
  obtain ⟨t', f', g1, g2, g3⟩ := fnd n hT 0 (by decide) z_0 (L := -1000001) (by decide)
  have hK' := hK
  obtain ⟨q, e, kk, hr, hv, hs⟩ := hK'
  obtain ⟨v, v1, v2⟩ := CP_copyFrom n hn kk (p1_paths := p1_paths) (p1_water := p1_water) (p1_wall := p1_wall) (p1_kind := p1_kind) (p1_place := p1_place) (p1_facing := p1_facing) (p1_age := p1_age) (p1_seeds := p1_seeds) (p1_season := p1_season) (p1_z := p1_z) (p1_spots := p1_spots)
  have hsd : v.2.2.2.2.2.2.2.1 = nI (q 1) := v2.2.2.2.2.2.2.2.1
  rcases sd n (a := a1) hr hv.1 hsd with ⟨s, hs1, rfl, c6, c7⟩ | ⟨c6, c7⟩
  · have h8 := hv.1
    rcases wi n (a := a2) 0 60 z_0 z_60 (by decide) (by decide) with ⟨N, -, hN, rfl, w6, w7⟩ | ⟨-, w6, w7⟩
    · obtain ⟨w, w1, w2⟩ := CP_pass n (by omega) v2 hv hb hN
      obtain ⟨y, y1, y2, y3⟩ := e7_behind n hn hN (show 85 + 4 * s + 1 < 117 by omega) (by omega) (aside := aside) hr hl ht hv hb
      have ha : fX7_at n (nI s) (1 : Int32) = some (nI (85 + 4 * s + 1)) := e7_at n s 1
      simp only [fX6_head, fX7_head, c6, c7, w6, w7, v1, w1, ha, y1, Option.bind_some, Option.elim_some, Option.elim_none, t10, t00, if_true, if_false]
      exact ⟨_, _, rfl, rfl, by rw [y2]; exact w2.2.2.2.2.1 s (by omega), ⟨q, e, kk, y3, hv, hs⟩, hT⟩
    · simp only [fX6_head, fX7_head, c6, c7, w6, w7, v1, g1, g2, Option.bind_some, Option.elim_some, Option.elim_none, t10, t00, if_true, if_false]
      exact ⟨_, _, rfl, rfl, rfl, hK, g3⟩
  · simp only [fX6_head, fX7_head, c6, c7, v1, g1, g2, Option.bind_some, Option.elim_some, Option.elim_none, t10, t00, if_true, if_false]
    exact ⟨_, _, rfl, rfl, rfl, hK, g3⟩
theorem op_there (n : Nat) (hn : 200 ≤ n) {p0_paths : Nat → Int32} {p0_water : Int64} {p0_wall : Int64} {p0_kind : Nat → Int32} {p0_place : Nat → Int32} {p0_facing : Nat → Int32} {p0_age : Nat → Int32} {p0_seeds : Int32} {p0_season : Int32} {p0_z : Int32} {p0_spots : Nat → Int32} {p1_paths : Nat → Int32} {p1_water : Int64} {p1_wall : Int64} {p1_kind : Nat → Int32} {p1_place : Nat → Int32} {p1_facing : Nat → Int32} {p1_age : Nat → Int32} {p1_seeds : Int32} {p1_season : Int32} {p1_z : Int32} {p1_spots : Nat → Int32} {r aside told found lives treads : Nat → Int32} {b : Nat} (hK : XK p0_paths p0_water p0_wall p0_kind p0_place p0_facing p0_age p0_seeds p0_season p0_z p0_spots r b) (hb : b < 99000) (hT : XT told found) (hl : LV lives) (ht : TR treads) (a1 : Int32) :
    ∃ x y, fX6_there n a1 p0_paths p0_water p0_wall p0_kind p0_place p0_facing p0_age p0_seeds p0_season p0_z p0_spots p1_paths p1_water p1_wall p1_kind p1_place p1_facing p1_age p1_seeds p1_season p1_z p1_spots told = some x ∧ fX7_there n a1 r aside found lives treads = some y ∧ x.1 = y.1 ∧ XK p0_paths p0_water p0_wall p0_kind p0_place p0_facing p0_age p0_seeds p0_season p0_z p0_spots y.2.1 b ∧ XT x.2.2.2.2.2.2.2.2.2.2.2.2 y.2.2.2 := by
  obtain ⟨t', f', g1, g2, g3⟩ := fnd n hT 0 (by decide) z_0 (L := -1000001) (by decide)
  rcases wi n (a := a1) 0 60 z_0 z_60 (by decide) (by decide) with ⟨N, -, hN, rfl, w6, w7⟩ | ⟨-, w6, w7⟩
  · obtain ⟨q, e, kk, hr, hv, hs⟩ := hK
    obtain ⟨v, v1, v2⟩ := CP_copyFrom n hn kk (p1_paths := p1_paths) (p1_water := p1_water) (p1_wall := p1_wall) (p1_kind := p1_kind) (p1_place := p1_place) (p1_facing := p1_facing) (p1_age := p1_age) (p1_seeds := p1_seeds) (p1_season := p1_season) (p1_z := p1_z) (p1_spots := p1_spots)
    obtain ⟨w, w1, w2⟩ := CP_pass n (by omega) v2 hv hb hN
    obtain ⟨a, b1, b2⟩ := e7_copyRow n hn aside r
    obtain ⟨r', r1, r2⟩ := e7_seasons n (by omega) hN hr hl ht hv hb
    obtain ⟨c, d1, d2⟩ := e7_copyRow n hn r' a
    have i1 := (its_k hv N).1
    simp only [fX6_there, fX7_there, w6, w7, v1, w1, b1, r1, d1, e2_pathSet n (by omega) w2.1 i1, e7_pathSet n (by omega) r2 i1, Option.bind_some, Option.elim_some, Option.elim_none, t10, t00, if_true, if_false]
    exact ⟨_, _, rfl, rfl, rfl, ⟨q, e, kk, hr.eqv fun i hi => (d2 i hi).trans (b2 i hi), hv, hs⟩, hT⟩
  · simp only [fX6_there, fX7_there, w6, w7, g1, g2, Option.bind_some, Option.elim_some, Option.elim_none, t10, t00, if_true, if_false]
    exact ⟨_, _, rfl, rfl, rfl, hK, g3⟩
