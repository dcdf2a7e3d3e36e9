/-! sowing for two cells -/
def sok (q : Nat → Nat) (k x y N c : Nat) : Bool := gr q c && jn (hp (its N (qpl q k c 0 0))) x y
theorem e6_sowL (n : Nat) (hn : 200 ≤ n) {p0_paths : Nat → Int32} {p0_water : Int64} {p0_wall : Int64} {p0_kind : Nat → Int32} {p0_place : Nat → Int32} {p0_facing : Nat → Int32} {p0_age : Nat → Int32} {p0_seeds : Int32} {p0_season : Int32} {p0_z : Int32} {p0_spots : Nat → Int32} {p1_paths : Nat → Int32} {p1_water : Int64} {p1_wall : Int64} {p1_kind : Nat → Int32} {p1_place : Nat → Int32} {p1_facing : Nat → Int32} {p1_age : Nat → Int32} {p1_seeds : Int32} {p1_season : Int32} {p1_z : Int32} {p1_spots : Nat → Int32} {told : Nat → Int32} {q : Nat → Nat} {e : Nat → Int32} {b N k x y : Nat} (kk : CP p0_paths p0_water p0_wall p0_kind p0_place p0_facing p0_age p0_seeds p0_season p0_z p0_spots q e) (hv : IV b q) (hb : b < 90000) (hN : N ≤ 60) (h8 : q 1 < 8) (hk : k < 7) (hx : x < 36) (hy : y < 36) :
    ∃ u, lp (fun (s22 : Int32 × (Nat → Int32) × Int64 × Int64 × (Nat → Int32) × (Nat → Int32) × (Nat → Int32) × (Nat → Int32) × Int32 × Int32 × Int32 × (Nat → Int32)) => ((if (36 : Int32) ≤ s22.1 then some (.inr (.inl (s22.1, s22.2.1, s22.2.2.1, s22.2.2.2.1, s22.2.2.2.2.1, s22.2.2.2.2.2.1, s22.2.2.2.2.2.2.1, s22.2.2.2.2.2.2.2.1, s22.2.2.2.2.2.2.2.2.1, s22.2.2.2.2.2.2.2.2.2.1, s22.2.2.2.2.2.2.2.2.2.2.1, s22.2.2.2.2.2.2.2.2.2.2.2))) else ((fX2_isGrass n s22.1 p0_water p0_wall).bind (fun q25 => (if q25 = 0 then some (.inl ((s22.1 + (1 : Int32)), s22.2.1, s22.2.2.1, s22.2.2.2.1, s22.2.2.2.2.1, s22.2.2.2.2.2.1, s22.2.2.2.2.2.2.1, s22.2.2.2.2.2.2.2.1, s22.2.2.2.2.2.2.2.2.1, s22.2.2.2.2.2.2.2.2.2.1, s22.2.2.2.2.2.2.2.2.2.2.1, s22.2.2.2.2.2.2.2.2.2.2.2)) else ((fX2_copyFrom n s22.2.1 s22.2.2.1 s22.2.2.2.1 s22.2.2.2.2.1 s22.2.2.2.2.2.1 s22.2.2.2.2.2.2.1 s22.2.2.2.2.2.2.2.1 s22.2.2.2.2.2.2.2.2.1 s22.2.2.2.2.2.2.2.2.2.1 s22.2.2.2.2.2.2.2.2.2.2.1 s22.2.2.2.2.2.2.2.2.2.2.2 p0_paths p0_water p0_wall p0_kind p0_place p0_facing p0_age p0_seeds p0_season p0_z p0_spots).bind (fun q28 => ((fX2_plant n (nI k) s22.1 (0 : Int32) (0 : Int32) q28.2.2.2.1 q28.2.2.2.2.1 q28.2.2.2.2.2.1 q28.2.2.2.2.2.2.1 q28.2.2.2.2.2.2.2.1).bind (fun q30 => ((fX2_pass n (nI N) q28.1 q28.2.1 q28.2.2.1 q30.2.1 q30.2.2.1 q30.2.2.2.1 q30.2.2.2.2.1 q30.2.2.2.2.2 q28.2.2.2.2.2.2.2.2.1).bind (fun q32 => ((fX2_pathSet n q32.1).bind (fun q34 => ((fX0_areJoined n (nI x) (nI y) q34).bind (fun q36 => (if q36 = 0 then some (.inl ((s22.1 + (1 : Int32)), q32.1, q28.2.1, q28.2.2.1, q30.2.1, q32.2.1, q32.2.2.1, q32.2.2.2.1, q30.2.2.2.2.2, q32.2.2.2.2, q28.2.2.2.2.2.2.2.2.2.1, q28.2.2.2.2.2.2.2.2.2.2)) else some (.inr (.inr (s22.1, q32.1, q28.2.1, q28.2.2.1, q30.2.1, q32.2.1, q32.2.2.1, q32.2.2.2.1, q30.2.2.2.2.2, q32.2.2.2.2, q28.2.2.2.2.2.2.2.2.2.1, q28.2.2.2.2.2.2.2.2.2.2, told)))))))))))))))))) : Option ((Int32 × (Nat → Int32) × Int64 × Int64 × (Nat → Int32) × (Nat → Int32) × (Nat → Int32) × (Nat → Int32) × Int32 × Int32 × Int32 × (Nat → Int32)) ⊕ ((Int32 × (Nat → Int32) × Int64 × Int64 × (Nat → Int32) × (Nat → Int32) × (Nat → Int32) × (Nat → Int32) × Int32 × Int32 × Int32 × (Nat → Int32)) ⊕ (Int32 × (Nat → Int32) × Int64 × Int64 × (Nat → Int32) × (Nat → Int32) × (Nat → Int32) × (Nat → Int32) × Int32 × Int32 × Int32 × (Nat → Int32) × (Nat → Int32)))))) n ((0 : Int32), p1_paths, p1_water, p1_wall, p1_kind, p1_place, p1_facing, p1_age, p1_seeds, p1_season, p1_z, p1_spots) = some u ∧
      ((∃ c rest, u = .inr rest ∧ rest.1 = nI c ∧ c < 36 ∧ sok q k x y N c = true ∧ (∀ j, j < c → ¬ sok q k x y N j = true) ∧ rest.2.2.2.2.2.2.2.2.2.2.2.2 = told) ∨ (∃ l, u = .inl l ∧ ∀ j, j < 36 → ¬ sok q k x y N j = true)) := by
  refine lp_ms (fun s => ∃ c, ∃ T : PK, s = (nI c, T) ∧ c ≤ 36 ∧ ∀ j, j < c → ¬ sok q k x y N j = true) (fun s => 36 - s.1.toNatClampNeg) _ ?_ n _ ⟨0, _, rfl, by decide, fun j hj => absurd hj (Nat.not_lt_zero _)⟩ (by omega)
  rintro s ⟨c, T, rfl, hc, hno⟩
  have more : ¬ sok q k x y N c = true → ∀ j, j < c + 1 → ¬ sok q k x y N j = true := fun h j hj => by
    by_cases e : j = c
    · subst e; exact h
    · exact hno j (by omega)
  dsimp +instances only
  rw [nI_clamp (by omega)]
  by_cases h : c < 36
  · rw [if_neg (Kle_F z_36 h (by decide)), e2_isGrass n kk.2.1 kk.2.2.1 hv h, Option.bind_some, z_1, nI_add]
    by_cases hg : q (13 + c) = 0
    · obtain ⟨v, v1, v2⟩ := CP_copyFrom n hn kk (p1_paths := T.1) (p1_water := T.2.1) (p1_wall := T.2.2.1) (p1_kind := T.2.2.2.1) (p1_place := T.2.2.2.2.1) (p1_facing := T.2.2.2.2.2.1) (p1_age := T.2.2.2.2.2.2.1) (p1_seeds := T.2.2.2.2.2.2.2.1) (p1_season := T.2.2.2.2.2.2.2.2.1) (p1_z := T.2.2.2.2.2.2.2.2.2.1) (p1_spots := T.2.2.2.2.2.2.2.2.2.2)
      obtain ⟨w, w1, w2, w3⟩ := CP_plant n v2 h8 (k := k) (c := c) (h := 0) (a := 0)
      have hvp := IV_qpl hv h8 hk h (show 0 < 4 by decide) (show 0 ≤ 999 by decide)
      obtain ⟨u, u1, u2⟩ := CP_pass n (by omega) w3 hvp (by omega) hN
      rw [show nI 0 = (0 : Int32) from rfl] at w1
      rw [if_neg (b01_T hg), v1, Option.bind_some, w1, Option.bind_some, u1, Option.bind_some, e2_pathSet n (by omega) u2.1 (its_k hvp N).1, Option.bind_some, e0_areJoined n (by omega) _ hx hy, Option.bind_some]
      by_cases hj : jn (hp (its N (qpl q k c 0 0))) x y = true
      · rw [if_neg (b01_T hj)]
        exact Or.inl ⟨_, rfl, Or.inl ⟨c, _, rfl, rfl, h, by unfold sok; rw [(gr_iff h).mpr hg, hj]; rfl, hno, rfl⟩⟩
      · rw [if_pos (b01_F hj)]
        exact Or.inr ⟨_, rfl, ⟨c + 1, _, rfl, by omega, more (by unfold sok; rw [bt_F hj, Bool.and_false]; decide)⟩, by dsimp only; rw [nI_clamp (by omega)]; omega⟩
    · rw [if_pos (b01_F hg)]
      exact Or.inr ⟨_, rfl, ⟨c + 1, T, rfl, by omega, more (by unfold sok; rw [bt_F (fun h1 => hg ((gr_iff h).mp h1)), Bool.false_and]; decide)⟩, by dsimp only; rw [nI_clamp (by omega)]; omega⟩
  · have : c = 36 := by omega
    subst this
    rw [if_pos (Kle_T z_36 (by decide) (by decide))]
    exact Or.inl ⟨_, rfl, Or.inr ⟨_, rfl, hno⟩⟩
theorem e7_joinsFrom (n : Nat) (hn : 200 ≤ n) {r aside steps queue lives treads : Nat → Int32} {q : Nat → Nat} {e : Nat → Int32} {b N k c x y : Nat} (hr : RM r q e) (hl : LV lives) (ht : TR treads) (hv : IV b q) (hb : b < 90000) (hN : N ≤ 60) (h8 : q 1 < 8) (hk : k < 7) (hc : c < 36) (hx : x < 36) (hy : y < 36) :
    ∃ v, fX7_joinsFrom n (nI k) (nI c) (nI x) (nI y) (nI N) r aside steps queue lives treads = some v ∧ v.1 = (if jn (hp (its N (qpl q k c 0 0))) x y = true then nI 1 else nI 0) ∧ RM v.2.1 q e := by
  obtain ⟨a, a1, a2⟩ := e7_copyRow n hn aside r
  obtain ⟨w, w1, w2, w3⟩ := e7_comes n hr h8 (k := k) (c := c) (h := 0) (a := 0)
  have hvp := IV_qpl hv h8 hk hc (show 0 < 4 by decide) (show 0 ≤ 999 by decide)
  obtain ⟨r', r1, r2⟩ := e7_seasons n (by omega) hN w3 hl ht hvp (by omega)
  obtain ⟨d, d1, d2⟩ := e7_copyRow n hn r' a
  obtain ⟨j, j1, j2⟩ := e7_areJoined n (by omega) (steps := steps) (queue := queue) r2 (its_k hvp N).1 hx hy
  rw [show nI 0 = (0 : Int32) from rfl] at w1
  unfold fX7_joinsFrom
  rw [a1, Option.bind_some, w1, Option.bind_some, r1, Option.bind_some, d1, if_neg (by rw [w2]; exact nI_pos (by omega)), j1, Option.bind_some, j2]
  by_cases h : jn (hp (its N (qpl q k c 0 0))) x y = true
  · rw [if_neg (b01_T h), if_pos h]
    exact ⟨_, rfl, rfl, hr.eqv fun i hi => (d2 i hi).trans (a2 i hi)⟩
  · rw [if_pos (b01_F h), if_neg h]
    exact ⟨_, rfl, rfl, hr.eqv fun i hi => (d2 i hi).trans (a2 i hi)⟩
theorem e7_sowL (n : Nat) (hn : 200 ≤ n) {r aside steps queue lives treads : Nat → Int32} {q : Nat → Nat} {e : Nat → Int32} {b N k x y : Nat} (hr : RM r q e) (hl : LV lives) (ht : TR treads) (hv : IV b q) (hb : b < 90000) (hN : N ≤ 60) (h8 : q 1 < 8) (hk : k < 7) (hx : x < 36) (hy : y < 36) :
    ∃ u, lp (fun (s15 : Int32 × (Nat → Int32) × (Nat → Int32) × (Nat → Int32) × (Nat → Int32)) => ((if (36 : Int32) ≤ s15.1 then some (.inr (s15.1, s15.2.1, s15.2.2.1, s15.2.2.2.1, s15.2.2.2.2)) else ((fX7_isGrass n s15.1 s15.2.1).bind (fun q18 => (if q18 = 0 then some (.inl ((s15.1 + (1 : Int32)), s15.2.1, s15.2.2.1, s15.2.2.2.1, s15.2.2.2.2)) else ((fX7_joinsFrom n (nI k) s15.1 (nI x) (nI y) (nI N) s15.2.1 s15.2.2.1 s15.2.2.2.1 s15.2.2.2.2 lives treads).bind (fun q21 => (if q21.1 = 0 then some (.inl ((s15.1 + (1 : Int32)), q21.2.1, q21.2.2.1, q21.2.2.2.1, q21.2.2.2.2)) else some (.inr (s15.1, q21.2.1, q21.2.2.1, q21.2.2.2.1, q21.2.2.2.2))))))))) : Option ((Int32 × (Nat → Int32) × (Nat → Int32) × (Nat → Int32) × (Nat → Int32)) ⊕ (Int32 × (Nat → Int32) × (Nat → Int32) × (Nat → Int32) × (Nat → Int32))))) n ((0 : Int32), r, aside, steps, queue) = some u ∧
      ∃ c, u.1 = nI c ∧ c ≤ 36 ∧ RM u.2.1 q e ∧ (∀ j, j < c → ¬ sok q k x y N j = true) ∧ (c < 36 → sok q k x y N c = true) := by
  refine lp_ms (fun s => ∃ c R A st qu, s = (nI c, R, A, st, qu) ∧ c ≤ 36 ∧ RM R q e ∧ ∀ j, j < c → ¬ sok q k x y N j = true) (fun s => 36 - s.1.toNatClampNeg) _ ?_ n _ ⟨0, _, _, _, _, rfl, by decide, hr, fun j hj => absurd hj (Nat.not_lt_zero _)⟩ (by omega)
  rintro s ⟨c, R, A, st, qu, rfl, hc, hR, hno⟩
  have more : ¬ sok q k x y N c = true → ∀ j, j < c + 1 → ¬ sok q k x y N j = true := fun h j hj => by
    by_cases e : j = c
    · subst e; exact h
    · exact hno j (by omega)
  dsimp +instances only
  rw [nI_clamp (by omega)]
  by_cases h : c < 36
  · rw [if_neg (Kle_F z_36 h (by decide)), e7_isGrass n hR hv h, Option.bind_some, z_1, nI_add]
    by_cases hg : q (13 + c) = 0
    · obtain ⟨v, v1, v2, v3⟩ := e7_joinsFrom n hn (aside := A) (steps := st) (queue := qu) hR hl ht hv hb hN h8 hk h hx hy
      rw [if_neg (b01_T hg), v1, Option.bind_some, v2]
      by_cases hj : jn (hp (its N (qpl q k c 0 0))) x y = true
      · rw [if_neg (b01_T hj)]
        exact Or.inl ⟨_, rfl, c, rfl, by omega, v3, hno, fun _ => by unfold sok; rw [(gr_iff h).mpr hg, hj]; rfl⟩
      · rw [if_pos (b01_F hj)]
        exact Or.inr ⟨_, rfl, ⟨c + 1, _, _, _, _, rfl, by omega, v3, more (by unfold sok; rw [bt_F hj, Bool.and_false]; decide)⟩, by dsimp only; rw [nI_clamp (by omega)]; omega⟩
    · rw [if_pos (b01_F hg)]
      exact Or.inr ⟨_, rfl, ⟨c + 1, R, A, st, qu, rfl, by omega, hR, more (by unfold sok; rw [bt_F (fun h1 => hg ((gr_iff h).mp h1)), Bool.false_and]; decide)⟩, by dsimp only; rw [nI_clamp (by omega)]; omega⟩
  · have : c = 36 := by omega
    subst this
    rw [if_pos (Kle_T z_36 (by decide) (by decide))]
    exact Or.inl ⟨_, rfl, 36, rfl, by decide, hR, hno, fun h => absurd h (by decide)⟩
theorem op_sowFor (n : Nat) (hn : 200 ≤ n) {p0_paths : Nat → Int32} {p0_water : Int64} {p0_wall : Int64} {p0_kind : Nat → Int32} {p0_place : Nat → Int32} {p0_facing : Nat → Int32} {p0_age : Nat → Int32} {p0_seeds : Int32} {p0_season : Int32} {p0_z : Int32} {p0_spots : Nat → Int32} {p1_paths : Nat → Int32} {p1_water : Int64} {p1_wall : Int64} {p1_kind : Nat → Int32} {p1_place : Nat → Int32} {p1_facing : Nat → Int32} {p1_age : Nat → Int32} {p1_seeds : Int32} {p1_season : Int32} {p1_z : Int32} {p1_spots : Nat → Int32} {r aside told found steps queue lives treads : Nat → Int32} {b : Nat} (hK : XK p0_paths p0_water p0_wall p0_kind p0_place p0_facing p0_age p0_seeds p0_season p0_z p0_spots r b) (hb : b < 90000) (hT : XT told found) (hl : LV lives) (ht : TR treads) (a1 a2 a3 a4 : Int32) :
    ∃ x y, fX6_sowFor n a1 a2 a3 a4 p0_paths p0_water p0_wall p0_kind p0_place p0_facing p0_age p0_seeds p0_season p0_z p0_spots p1_paths p1_water p1_wall p1_kind p1_place p1_facing p1_age p1_seeds p1_season p1_z p1_spots told = some x ∧ fX7_sowFor n a1 a2 a3 a4 r aside found steps queue lives treads = some y ∧ x.1 = y.1 ∧ XK p0_paths p0_water p0_wall p0_kind p0_place p0_facing p0_age p0_seeds p0_season p0_z p0_spots y.2.1 b ∧ XT x.2.2.2.2.2.2.2.2.2.2.2.2 y.2.2.2.1 := by
  obtain ⟨t', f', g1, g2, g3⟩ := fnd n hT 0 (by decide) z_0 (L := -1000001) (by decide)
  obtain ⟨t1, f1, j1, j2, j3⟩ := fnd n hT 1 (by decide) z_1 (L := -1000002) (by decide)
  obtain ⟨t3, f3, i1, i2, i3⟩ := fnd n hT 3 (by decide) z_3 (L := -1000004) (by decide)
  rcases kd n a1 with ⟨k, hk, rfl, k6, k7⟩ | ⟨-, k6, k7⟩
  · rcases ac n a2 a3 with ⟨x, y, hx, hy, rfl, rfl, c1, c2, c3⟩ | ⟨c1, c3⟩ | ⟨c1, c2, c3⟩
    · rcases wi n (a := a4) 0 30 z_0 z_30 (by decide) (by decide) with ⟨N, -, hN, rfl, w6, w7⟩ | ⟨-, w6, w7⟩
      · have hK' := hK
        obtain ⟨q, e, kk, hr, hv, hs⟩ := hK'
        have h8 := hv.1
        have hF := e2_isFull n hv.1
        have hsd : p0_seeds = nI (q 1) := kk.2.2.2.2.2.2.2.1
        rw [← hsd] at hF
        by_cases e8 : q 1 = 8
        · rw [if_pos e8] at hF
          have hq : (nI (q 1) = (8 : Int32)) = True := eq_true (by rw [e8]; rfl)
          simp only [fX6_sowFor, fX7_sowFor, k6, k7, c1, c2, c3, w6, w7, hF, hr.seeds, hq, j1, j2, Option.bind_some, Option.elim_some, Option.elim_none, t10, t00, if_true, if_false]
          exact ⟨_, _, rfl, rfl, rfl, hK, j3⟩
        · rw [if_neg e8] at hF
          have hq : (nI (q 1) = (8 : Int32)) = False := eq_false (nIneK z_8 e8 (by omega) (by decide))
          obtain ⟨u6, l6, d6⟩ := e6_sowL n hn (told := told) kk hv hb (show N ≤ 60 by omega) (show q 1 < 8 by omega) hk hx hy (p1_paths := p1_paths) (p1_water := p1_water) (p1_wall := p1_wall) (p1_kind := p1_kind) (p1_place := p1_place) (p1_facing := p1_facing) (p1_age := p1_age) (p1_seeds := p1_seeds) (p1_season := p1_season) (p1_z := p1_z) (p1_spots := p1_spots)
          obtain ⟨u7, l7, c, d1, d2, d3, d4, d5⟩ := e7_sowL n hn (aside := aside) (steps := steps) (queue := queue) hr hl ht hv hb (show N ≤ 60 by omega) (show q 1 < 8 by omega) hk hx hy
          have hX : XK p0_paths p0_water p0_wall p0_kind p0_place p0_facing p0_age p0_seeds p0_season p0_z p0_spots u7.2.1 b := ⟨q, e, kk, d3, hv, hs⟩
          rcases d6 with ⟨c6, rest, rfl, m1, m2, m3, m4, m5⟩ | ⟨l, rfl, m1⟩
          · have hcc : c = c6 := by
              rcases Nat.lt_trichotomy c c6 with h | h | h
              · exact absurd (d5 (by omega)) (m4 c h)
              · exact h
              · exact absurd m3 (d4 c6 h)
            subst hcc
            have hle : ((36 : Int32) ≤ nI c) = False := eq_false (Kle_F z_36 m2 (by decide))
            simp only [fX6_sowFor, fX7_sowFor, k6, k7, c1, c2, c3, w6, w7, hF, hr.seeds, hq, l6, l7, d1, hle, Sum.elim_inr, Option.bind_some, Option.elim_some, Option.elim_none, t10, t00, if_true, if_false]
            exact ⟨_, _, rfl, rfl, m1, hX, by rw [m5]; exact hT⟩
          · have hc36 : c = 36 := by
              apply Classical.byContradiction
              intro h
              exact absurd (d5 (by omega)) (m1 c (by omega))
            subst hc36
            have hle : ((36 : Int32) ≤ nI 36) = True := eq_true (by decide)
            simp only [fX6_sowFor, fX7_sowFor, k6, k7, c1, c2, c3, w6, w7, hF, hr.seeds, hq, l6, l7, d1, hle, i1, i2, Sum.elim_inl, Option.bind_some, Option.elim_some, Option.elim_none, t10, t00, if_true, if_false]
            exact ⟨_, _, rfl, rfl, rfl, hX, i3⟩
      · simp only [fX6_sowFor, fX7_sowFor, k6, k7, c1, c2, c3, w6, w7, g1, g2, Option.bind_some, Option.elim_some, Option.elim_none, t10, t00, if_true, if_false]
        exact ⟨_, _, rfl, rfl, rfl, hK, g3⟩
    · simp only [fX6_sowFor, fX7_sowFor, k6, k7, c1, c3, g1, g2, Option.bind_some, Option.elim_some, Option.elim_none, t10, t00, if_true, if_false]
      exact ⟨_, _, rfl, rfl, rfl, hK, g3⟩
    · simp only [fX6_sowFor, fX7_sowFor, k6, k7, c1, c2, c3, g1, g2, Option.bind_some, Option.elim_some, Option.elim_none, t10, t00, if_true, if_false]
      exact ⟨_, _, rfl, rfl, rfl, hK, g3⟩
  · simp only [fX6_sowFor, fX7_sowFor, k6, k7, g1, g2, Option.bind_some, Option.elim_some, Option.elim_none, t10, t00, if_true, if_false]
    exact ⟨_, _, rfl, rfl, rfl, hK, g3⟩
/-! dogs -/
theorem t_draw : ∀ (x : Int32), (x.toUInt32 >>> ((8 : Int32).toUInt32 &&& Int32.toUInt32 31)).toInt32 = nI (x.toBitVec.toNat / 256) := by
  intro x
  have h : ((x.toUInt32 >>> ((8 : Int32).toUInt32 &&& Int32.toUInt32 31)).toInt32).toBitVec.toNat = x.toBitVec.toNat / 2 ^ 8 := pk_ushr x 8 8 (by decide)
  have hx := x.toBitVec.isLt
  refine Int32.toBitVec_inj.mp (BitVec.eq_of_toNat_eq ?_)
  rw [h, pk_tn (by omega)]
def zdr (x : Int32) : Int32 := x * (1103515245 : Int32) + (12345 : Int32)
def zN (x : Int32) : Nat := (zdr x).toBitVec.toNat / 256
theorem zN_lt (x : Int32) : zN x < 2 ^ 31 := by
  have := (zdr x).toBitVec.isLt
  unfold zN; omega
theorem e2_draw (n : Nat) (x : Int32) : fX2_draw n x = some (nI (zN x), zdr x) := by
  unfold fX2_draw
  rw [t_draw]; rfl
theorem e7_drawn (n : Nat) (r : Nat → Int32) : fX7_drawn n r = some (nI (zN (r 2)), upd r 2 (zdr (r 2))) := by
  have h2 : (2 : Int32).toNatClampNeg = 2 := by decide
  unfold fX7_drawn
  rw [h2, upd_at, t_draw]; rfl
theorem XK_dog (n : Nat) (hn : 100 ≤ n) {paths place facing age : Nat → Int32} {water wall : Int64} {kind spots r lives treads : Nat → Int32} {seeds season z : Int32} {q : Nat → Nat} {e : Nat → Int32} {b : Nat} (kk : CP paths water wall kind place facing age seeds season z spots q e) (hr : RM r q e) (hv : IV b q) (hb : b < 90000) (hs : SPT e (q 1)) (hl : LV lives) (ht : TR treads) :
    ∃ d, fX2_draw n z = some d ∧ ∃ P, fX2_becomePath n (d.1 - d.1 / (36 : Int32) * (36 : Int32)) (0 : Int32) paths water wall = some P ∧ ∃ v, fX2_pass n (1 : Int32) P water wall kind place facing age seeds season = some v ∧
      ∃ w, fX7_drawn n r = some w ∧ w.1 = d.1 ∧ vi ((49 : Int32) + (w.1 - w.1 / (36 : Int32) * (36 : Int32))) 117 ∧ ∃ R, fX7_season n (upd w.2 ((49 : Int32) + (w.1 - w.1 / (36 : Int32) * (36 : Int32))).toNatClampNeg (0 : Int32)) lives treads = some R ∧
        ∃ q' e', CP v.1 water wall kind v.2.1 v.2.2.1 v.2.2.2.1 seeds v.2.2.2.2 d.2 spots q' e' ∧ RM R q' e' ∧ IV (b + 1) q' ∧ SPT e' (q' 1) := by
  have k10 : z = e 2 := kk.2.2.2.2.2.2.2.2.2.1
  have hre : r 2 = z := by rw [k10, hr 2 (by decide), if_pos (by decide)]
  have hz := zN_lt z
  rw [e2_draw, e7_drawn, hre]
  generalize zN z = m at hz
  generalize zdr z = y
  obtain ⟨c, hc, hrem⟩ : ∃ c, c < 36 ∧ nI m - nI m / (36 : Int32) * (36 : Int32) = nI c := ⟨m % 36, Nat.mod_lt _ (by decide), by rw [z_36]; exact pk_rem hz (by decide) (by decide)⟩
  have kz := kk.z y
  have hrz := hr.upE (i := 2) y (by decide)
  have hsz := hs.z y
  have hvp : IV b (upq q (49 + c) 0) := hv.path hc (Nat.zero_le _) (fun _ => rfl)
  have hrp : RM (upd (upd r 2 y) (49 + c) (0 : Int32)) (upq q (49 + c) 0) (upd e 2 y) := hrz.up (49 + c) 0 (by omega)
  have kp : CP (if q (13 + c) = 0 then upd paths (c) (0 : Int32) else paths) water wall kind place facing age seeds season y spots (upq q (49 + c) 0) (upd e 2 y) := by
    obtain ⟨k1, k2, k3, k4, k5, k6, k7, k8, k9, k10, k11⟩ := kz
    refine ⟨?_, k2.skip _ _ (by omega), k3.skip _ _ (by omega), k4.eq fun s _ => upq_F (by omega), k5.eq fun s _ => upq_F (by omega), k6.eq fun s _ => upq_F (by omega), k7.eq fun s _ => upq_F (by omega), by rw [upq_F (by omega)]; exact k8, by rw [upq_F (by omega)]; exact k9, k10, k11⟩
    by_cases h0 : q (13 + c) = 0
    · have h1 : RP (upd paths c (0 : Int32)) (upq q (49 + c) 0) := k1.up c 0
      rw [if_pos h0]; exact h1
    · rw [if_neg h0]
      refine k1.eq fun d hc2 => ?_
      by_cases ec : d = c
      · subst ec
        rw [upq_T rfl, (hv.2.2.1 _ hc2).2.2 h0]
      · exact upq_F (by omega)
  obtain ⟨v, v1, v2⟩ := CP_pass n hn (N := 1) kp hvp (by omega) (by decide)
  rw [show nI 1 = (1 : Int32) from rfl] at v1
  obtain ⟨R, r1, r2⟩ := e7_season n (by omega) hrp hl ht hvp (by omega)
  have h49 : (49 : Int32) + nI (c) = nI (49 + c) := by rw [z_49, nI_add]
  refine ⟨(nI m, y), rfl, _, ?_, v, v1, (nI m, upd r 2 y), rfl, rfl, ?_, R, ?_, _, _, v2, r2, IV_ssn hvp, ?_⟩
  · dsimp only
    rw [hrem]; exact e2_becomePath n kk.2.1 kk.2.2.1 hv hc
  · dsimp only
    rw [hrem, h49]; exact vi_N (by omega) (by decide)
  · dsimp only
    rw [hrem, h49, nI_clamp (by omega)]; exact r1
  · have := (its_k hvp 1).2.1
    rw [this, upq_F (by omega)]; exact hsz
theorem op_dogs (n : Nat) (hn : 100 ≤ n) {p0_paths : Nat → Int32} {p0_water : Int64} {p0_wall : Int64} {p0_kind : Nat → Int32} {p0_place : Nat → Int32} {p0_facing : Nat → Int32} {p0_age : Nat → Int32} {p0_seeds : Int32} {p0_season : Int32} {p0_z : Int32} {p0_spots : Nat → Int32} {r told found lives treads : Nat → Int32} {b : Nat} (hK : XK p0_paths p0_water p0_wall p0_kind p0_place p0_facing p0_age p0_seeds p0_season p0_z p0_spots r b) (hb : b < 80000) (hT : XT told found) (hl : LV lives) (ht : TR treads) (a1 : Int32) :
    ∃ x y, fX6_dogs n a1 p0_paths p0_water p0_wall p0_kind p0_place p0_facing p0_age p0_seeds p0_season p0_z told = some x ∧ fX7_dogs n a1 r found lives treads = some y ∧ x.1 = y.1 ∧ XK x.2.1 p0_water p0_wall p0_kind x.2.2.1 x.2.2.2.1 x.2.2.2.2.1 p0_seeds x.2.2.2.2.2.1 x.2.2.2.2.2.2.1 p0_spots y.2.1 (b + 40) ∧ XT x.2.2.2.2.2.2.2 y.2.2 := by
  obtain ⟨t', f', g1, g2, g3⟩ := fnd n hT 0 (by decide) z_0 (L := -1000001) (by decide)
  rcases wi n (a := a1) 1 20 z_1 z_20 (by decide) (by decide) with ⟨N, -, hN, rfl, c6, c7⟩ | ⟨-, c6, c7⟩
  · obtain ⟨q, e, kk, hr, hv, hs⟩ := hK
    have h0 := hv.2.1
    have k9 : p0_season = nI (q 0) := kk.2.2.2.2.2.2.2.2.1
    have h0r : r (0 : Int32).toNatClampNeg = nI (q 0) := hr.at 0 (by decide) (by decide)
    have hle : (nI (q 0) + nI N ≤ (99999 : Int32)) = True := eq_true (by rw [nI_add]; exact leK_T z_99999 (by omega) (by decide))
    have hle' : (p0_season + nI N ≤ (99999 : Int32)) = True := by rw [k9]; exact hle
    suffices h : ∃ P L F A sn z R, (∃ k : Int32, lp (fun (s5 : Int32 × (Nat → Int32) × (Nat → Int32) × (Nat → Int32) × (Nat → Int32) × Int32 × Int32) => ((if (nI N) ≤ s5.1 then some (.inr (s5.1, s5.2.1, s5.2.2.1, s5.2.2.2.1, s5.2.2.2.2.1, s5.2.2.2.2.2.1, s5.2.2.2.2.2.2)) else ((fX2_draw n s5.2.2.2.2.2.2).bind (fun q8 => ((fX2_becomePath n (q8.1 - q8.1 / (36 : Int32) * (36 : Int32)) (0 : Int32) s5.2.1 p0_water p0_wall).bind (fun q10 => ((fX2_pass n (1 : Int32) q10 p0_water p0_wall p0_kind s5.2.2.1 s5.2.2.2.1 s5.2.2.2.2.1 p0_seeds s5.2.2.2.2.2.1).bind (fun q12 => some (.inl ((s5.1 + (1 : Int32)), q12.1, q12.2.1, q12.2.2.1, q12.2.2.2.1, q12.2.2.2.2, q8.2))))))))) : Option ((Int32 × (Nat → Int32) × (Nat → Int32) × (Nat → Int32) × (Nat → Int32) × Int32 × Int32) ⊕ (Int32 × (Nat → Int32) × (Nat → Int32) × (Nat → Int32) × (Nat → Int32) × Int32 × Int32)))) n ((0 : Int32), p0_paths, p0_place, p0_facing, p0_age, p0_season, p0_z) = some (k, P, L, F, A, sn, z)) ∧ (∃ k : Int32, lp (fun (s5 : Int32 × (Nat → Int32)) => ((if (nI N) ≤ s5.1 then some (.inr (s5.1, s5.2)) else ((fX7_drawn n s5.2).bind (fun q8 => (if vi ((49 : Int32) + (q8.1 - q8.1 / (36 : Int32) * (36 : Int32))) 117 then ((fX7_season n (upd q8.2 ((49 : Int32) + (q8.1 - q8.1 / (36 : Int32) * (36 : Int32))).toNatClampNeg (0 : Int32)) lives treads).bind (fun q11 => some (.inl ((s5.1 + (1 : Int32)), q11)))) else none)))) : Option ((Int32 × (Nat → Int32)) ⊕ (Int32 × (Nat → Int32))))) n ((0 : Int32), r) = some (k, R)) ∧ ∃ q e, CP P p0_water p0_wall p0_kind L F A p0_seeds sn z p0_spots q e ∧ RM R q e ∧ IV (b + 40) q ∧ SPT e (q 1) by
      obtain ⟨P, L, F, A, sn, z, R, ⟨i, l6⟩, ⟨j, l7⟩, q', e', c1, c2, c3, c4⟩ := h
      simp only [fX6_dogs, fX7_dogs, c6, c7, h0r, hle, hle', l6, l7, e2_pathCells n hn c1.1 c3, e7_pathsNow n hn c2 c3, Option.bind_some, Option.elim_some, Option.elim_none, t10, t00, if_true, if_false]
      exact ⟨_, _, rfl, rfl, rfl, ⟨q', e', c1, c2, c3, c4⟩, hT⟩
    have key : ∀ N', N' ≤ N → ∃ P L F A sn z R, (∀ v, lp (fun (s5 : Int32 × (Nat → Int32) × (Nat → Int32) × (Nat → Int32) × (Nat → Int32) × Int32 × Int32) => ((if (nI N) ≤ s5.1 then some (.inr (s5.1, s5.2.1, s5.2.2.1, s5.2.2.2.1, s5.2.2.2.2.1, s5.2.2.2.2.2.1, s5.2.2.2.2.2.2)) else ((fX2_draw n s5.2.2.2.2.2.2).bind (fun q8 => ((fX2_becomePath n (q8.1 - q8.1 / (36 : Int32) * (36 : Int32)) (0 : Int32) s5.2.1 p0_water p0_wall).bind (fun q10 => ((fX2_pass n (1 : Int32) q10 p0_water p0_wall p0_kind s5.2.2.1 s5.2.2.2.1 s5.2.2.2.2.1 p0_seeds s5.2.2.2.2.2.1).bind (fun q12 => some (.inl ((s5.1 + (1 : Int32)), q12.1, q12.2.1, q12.2.2.1, q12.2.2.2.1, q12.2.2.2.2, q8.2))))))))) : Option ((Int32 × (Nat → Int32) × (Nat → Int32) × (Nat → Int32) × (Nat → Int32) × Int32 × Int32) ⊕ (Int32 × (Nat → Int32) × (Nat → Int32) × (Nat → Int32) × (Nat → Int32) × Int32 × Int32)))) (n - N') (nI N', P, L, F, A, sn, z) = some v → lp (fun (s5 : Int32 × (Nat → Int32) × (Nat → Int32) × (Nat → Int32) × (Nat → Int32) × Int32 × Int32) => ((if (nI N) ≤ s5.1 then some (.inr (s5.1, s5.2.1, s5.2.2.1, s5.2.2.2.1, s5.2.2.2.2.1, s5.2.2.2.2.2.1, s5.2.2.2.2.2.2)) else ((fX2_draw n s5.2.2.2.2.2.2).bind (fun q8 => ((fX2_becomePath n (q8.1 - q8.1 / (36 : Int32) * (36 : Int32)) (0 : Int32) s5.2.1 p0_water p0_wall).bind (fun q10 => ((fX2_pass n (1 : Int32) q10 p0_water p0_wall p0_kind s5.2.2.1 s5.2.2.2.1 s5.2.2.2.2.1 p0_seeds s5.2.2.2.2.2.1).bind (fun q12 => some (.inl ((s5.1 + (1 : Int32)), q12.1, q12.2.1, q12.2.2.1, q12.2.2.2.1, q12.2.2.2.2, q8.2))))))))) : Option ((Int32 × (Nat → Int32) × (Nat → Int32) × (Nat → Int32) × (Nat → Int32) × Int32 × Int32) ⊕ (Int32 × (Nat → Int32) × (Nat → Int32) × (Nat → Int32) × (Nat → Int32) × Int32 × Int32)))) n ((0 : Int32), p0_paths, p0_place, p0_facing, p0_age, p0_season, p0_z) = some v) ∧ (∀ v, lp (fun (s5 : Int32 × (Nat → Int32)) => ((if (nI N) ≤ s5.1 then some (.inr (s5.1, s5.2)) else ((fX7_drawn n s5.2).bind (fun q8 => (if vi ((49 : Int32) + (q8.1 - q8.1 / (36 : Int32) * (36 : Int32))) 117 then ((fX7_season n (upd q8.2 ((49 : Int32) + (q8.1 - q8.1 / (36 : Int32) * (36 : Int32))).toNatClampNeg (0 : Int32)) lives treads).bind (fun q11 => some (.inl ((s5.1 + (1 : Int32)), q11)))) else none)))) : Option ((Int32 × (Nat → Int32)) ⊕ (Int32 × (Nat → Int32))))) (n - N') (nI N', R) = some v → lp (fun (s5 : Int32 × (Nat → Int32)) => ((if (nI N) ≤ s5.1 then some (.inr (s5.1, s5.2)) else ((fX7_drawn n s5.2).bind (fun q8 => (if vi ((49 : Int32) + (q8.1 - q8.1 / (36 : Int32) * (36 : Int32))) 117 then ((fX7_season n (upd q8.2 ((49 : Int32) + (q8.1 - q8.1 / (36 : Int32) * (36 : Int32))).toNatClampNeg (0 : Int32)) lives treads).bind (fun q11 => some (.inl ((s5.1 + (1 : Int32)), q11)))) else none)))) : Option ((Int32 × (Nat → Int32)) ⊕ (Int32 × (Nat → Int32))))) n ((0 : Int32), r) = some v) ∧ ∃ q e, CP P p0_water p0_wall p0_kind L F A p0_seeds sn z p0_spots q e ∧ RM R q e ∧ IV (b + N') q ∧ SPT e (q 1) := by
      intro N'
      induction N' with
      | zero => intro _; exact ⟨_, _, _, _, _, _, _, fun v h => h, fun v h => h, q, e, kk, hr, hv, hs⟩
      | succ N' ih =>
        intro hN'
        obtain ⟨P, L, F, A, sn, z, R, l6, l7, q', e', c1, c2, c3, c4⟩ := ih (by omega)
        obtain ⟨d, d1, P', d2, v, d3, w, d4, d5, d6, R', d7, q2, e2, m1, m2, m3, m4⟩ := XK_dog n hn c1 c2 c3 (by omega) c4 hl ht
        refine ⟨v.1, v.2.1, v.2.2.1, v.2.2.2.1, v.2.2.2.2, d.2, R', fun u hu => l6 u ?_, fun u hu => l7 u ?_, q2, e2, m1, m2, m3, m4⟩
        · rw [show n - N' = (n - (N' + 1)) + 1 by omega, lp]
          dsimp +instances only
          rw [if_neg (nI_ge (by omega) (by omega)), d1, Option.bind_some, d2, Option.bind_some, d3, Option.bind_some, Option.bind_some, z_1, nI_add]
          exact hu
        · rw [show n - N' = (n - (N' + 1)) + 1 by omega, lp]
          dsimp +instances only
          rw [if_neg (nI_ge (by omega) (by omega)), d4, Option.bind_some, if_pos d6, d7, Option.bind_some, Option.bind_some, z_1, nI_add]
          exact hu
    obtain ⟨P, L, F, A, sn, z, R, l6, l7, q', e', c1, c2, c3, c4⟩ := key N (Nat.le_refl _)
    refine ⟨P, L, F, A, sn, z, R, ⟨nI N, l6 _ ?_⟩, ⟨nI N, l7 _ ?_⟩, q', e', c1, c2, c3.mono (by omega), c4⟩
    · rw [show n - N = (n - N - 1) + 1 by omega, lp]
      dsimp +instances only
      rw [if_pos (nI_le (Nat.le_refl _) (by omega))]; rfl
    · rw [show n - N = (n - N - 1) + 1 by omega, lp]
      dsimp +instances only
      rw [if_pos (nI_le (Nat.le_refl _) (by omega))]; rfl
  · simp only [fX6_dogs, fX7_dogs, c6, c7, g1, g2, Option.bind_some, Option.elim_some, Option.elim_none, t10, t00, if_true, if_false]
    exact ⟨_, _, rfl, rfl, rfl, hK.mono (by omega), g3⟩
