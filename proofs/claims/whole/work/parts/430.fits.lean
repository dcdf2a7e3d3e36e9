/-! which kinds, how many headings -/
def wnt (nums : Nat → Int32) (c z : Nat) (q : Nat → Nat) (p k : Nat) : Bool := al (okk nums c (upq q p k)) z
theorem e7_fitting (n : Nat) (hn2 : 200 ≤ n) {r aside lives treads sz nu : Nat → Int32} {nums : Nat → Int32} {q : Nat → Nat} {e : Nat → Int32} {b s c z t f many : Nat} (hr : RM r q e) (hl : LV lives) (ht : TR treads) (hv : IV b q) (hb : b < 90000) (hs : s < 4) (hz : sz s = nI z) (h40 : z ≤ 40) (hc : c < 36) (hnu : ∀ i, i < 40 → nu (40 * s + i) = nums i) (ht8 : t < 8) (ho : ∀ k, k < many → okv f k) (hm : many ≤ 7) (hf : f < 4) :
    ∃ u, fX7_fitting n (nI s) (nI c) (nI (85 + 4 * t + f)) (nI many) r aside lives treads sz nu = some u ∧ u.1 = nI (sbN (wnt nums c z q (85 + 4 * t + f)) many) ∧ RM u.2.1 q e := by
  have hvi : vi (nI (85 + 4 * t + f)) 117 := vi_N (by omega) (by decide)
  have hcl := nI_clamp (show 85 + 4 * t + f < 2 ^ 31 by omega)
  have hpe : 85 + 4 * t + f < 2 ∨ 13 ≤ 85 + 4 * t + f := by omega
  have hp1 := hr.at (85 + 4 * t + f) (by omega) hpe
  unfold fX7_fitting
  rw [if_pos hvi]
  refine lpx (fun k S => ∃ R A x, S = (nI (sbN (wnt nums c z q (85 + 4 * t + f)) k), nI k, R, A) ∧ RM R (upq q (85 + 4 * t + f) x) e) many (fun v => v.1 = nI (sbN (wnt nums c z q (85 + 4 * t + f)) many) ∧ ∃ x, RM v.2.2.1 (upq q (85 + 4 * t + f) x) e) ⟨_, _, q (85 + 4 * t + f), rfl, by rw [upq_self]; exact hr⟩ (fun k S hk hI => ?_) (fun S hI => ?_) (by omega) (fun v hX => ?_)
  · obtain ⟨R, A, x, rfl, hR⟩ := hI
    have hvk := IV_seed hv ht8 (ho k hk)
    have hR2 := hR.up (85 + 4 * t + f) k hpe
    rw [upq_upq] at hR2
    obtain ⟨w, w1, w2', w3⟩ := e7_wentSo n hn2 (aside := A) hR2 hl ht hvk hb hs hz h40 hc hnu
    have w2 : w.1 = if wnt nums c z q (85 + 4 * t + f) k = true then nI 1 else nI 0 := w2'
    dsimp +instances only
    rw [if_neg (nI_ge hk (by omega)), if_pos hvi, hcl, w1, Option.bind_some, w2, nI_1]
    by_cases h : wnt nums c z q (85 + 4 * t + f) k = true
    · rw [if_neg (b01_T h), t_orI k (by omega) _ (sbN_lt _ k), ← sbN_T h]
      exact ⟨_, rfl, _, _, k, rfl, w3⟩
    · rw [if_pos (b01_F h), Int32.or_zero, ← sbN_F h]
      exact ⟨_, rfl, _, _, k, rfl, w3⟩
  · obtain ⟨R, A, x, rfl, hR⟩ := hI
    dsimp +instances only
    rw [if_pos (nI_le (Nat.le_refl _) (by omega))]
    exact ⟨_, rfl, rfl, x, hR⟩
  · obtain ⟨h1, x, hR⟩ := hX
    rw [if_pos hvi, hcl, hp1]
    refine ⟨_, rfl, h1, ?_⟩
    have := hR.up (85 + 4 * t + f) (q (85 + 4 * t + f)) hpe
    rw [upq_upq, upq_self] at this
    exact this
theorem op_fits (n : Nat) (hn : 200 ≤ n) {p0_paths : Nat → Int32} {p0_water : Int64} {p0_wall : Int64} {p0_kind : Nat → Int32} {p0_place : Nat → Int32} {p0_facing : Nat → Int32} {p0_age : Nat → Int32} {p0_seeds : Int32} {p0_season : Int32} {p0_z : Int32} {p0_spots : Nat → Int32} {p1_paths : Nat → Int32} {p1_water : Int64} {p1_wall : Int64} {p1_kind : Nat → Int32} {p1_place : Nat → Int32} {p1_facing : Nat → Int32} {p1_age : Nat → Int32} {p1_seeds : Int32} {p1_season : Int32} {p1_z : Int32} {p1_spots : Nat → Int32} {r aside told found lives treads hb hs wd sz nu : Nat → Int32} {hN : Nat → Nat → Int32} {b : Nat} (hK : XK p0_paths p0_water p0_wall p0_kind p0_place p0_facing p0_age p0_seeds p0_season p0_z p0_spots r b) (hbb : b < 90000) (hT : XT told found) (hH : XH hN hb hs wd sz nu) (hl : LV lives) (ht : TR treads) (a1 a2 a3 : Int32) :
    ∃ x y, fX6_fits n a1 a2 a3 p0_paths p0_water p0_wall p0_kind p0_place p0_facing p0_age p0_seeds p0_season p0_z p0_spots p1_paths p1_water p1_wall p1_kind p1_place p1_facing p1_age p1_seeds p1_season p1_z p1_spots hN hb hs told = some x ∧ fX7_fits n a1 a2 a3 r aside found lives treads wd sz nu = some y ∧ x.1 = y.1 ∧ XK p0_paths p0_water p0_wall p0_kind p0_place p0_facing p0_age p0_seeds p0_season p0_z p0_spots y.2.1 b ∧ XT x.2.2.2.2.2.2.2.2.2.2.2.2 y.2.2.2 := by
  obtain ⟨t', f', g1, g2, g3⟩ := fnd n hT 0 (by decide) z_0 (L := -1000001) (by decide)
  obtain ⟨t5, f5, i1, i2, i3⟩ := fnd n hT 5 (by decide) z_5 (L := -1000006) (by decide)
  rcases shl n hH a1 with ⟨s, hs4, rfl, s6, s7, ⟨m0, m6, m7⟩ | ⟨m0, m6, m7⟩⟩ | ⟨s6, s7, m7⟩
  · simp only [fX6_fits, fX7_fits, s6, m6, m7, tL6, i1, i2, Option.bind_some, Option.elim_some, Option.elim_none, t10, t00, if_true, if_false]
    exact ⟨_, _, rfl, rfl, rfl, hK, i3⟩
  · have hK' := hK
    obtain ⟨q, e, kk, hr, hv, hs'⟩ := hK'
    have h8 := hv.1
    rcases sd n (a := a2) hr hv.1 kk.2.2.2.2.2.2.2.1 with ⟨t, ht1, rfl, c6, c7⟩ | ⟨c6, c7⟩
    · rcases ce n a3 with ⟨c, hc, rfl, d6, d7⟩ | ⟨-, d6, d7⟩
      · obtain ⟨-, hz2, ⟨z, hz40, hz⟩, hnu⟩ := hH s hs4
        obtain ⟨y, y1, y2, y3⟩ := e7_fitting n hn (aside := aside) hr hl ht hv hbb hs4 (hz2.trans hz) hz40 hc hnu (show t < 8 by omega) okv_kind (by decide) (by decide)
        have hat : fX7_at n (nI t) (0 : Int32) = some (nI (85 + 4 * t + 0)) := e7_at n t 0
        rw [show nI 7 = (7 : Int32) from rfl] at y1
        have h6 : ∃ v, lp (fun (s19 : Int32 × Int32 × (Nat → Int32) × Int64 × Int64 × (Nat → Int32) × (Nat → Int32) × (Nat → Int32) × (Nat → Int32) × Int32 × Int32 × Int32 × (Nat → Int32)) => ((if (7 : Int32) ≤ s19.2.1 then some (.inr (s19.1, s19.2.1, s19.2.2.1, s19.2.2.2.1, s19.2.2.2.2.1, s19.2.2.2.2.2.1, s19.2.2.2.2.2.2.1, s19.2.2.2.2.2.2.2.1, s19.2.2.2.2.2.2.2.2.1, s19.2.2.2.2.2.2.2.2.2.1, s19.2.2.2.2.2.2.2.2.2.2.1, s19.2.2.2.2.2.2.2.2.2.2.2.1, s19.2.2.2.2.2.2.2.2.2.2.2.2)) else ((fX2_copyWith n (nI t) (0 : Int32) s19.2.1 s19.2.2.1 s19.2.2.2.1 s19.2.2.2.2.1 s19.2.2.2.2.2.1 s19.2.2.2.2.2.2.1 s19.2.2.2.2.2.2.2.1 s19.2.2.2.2.2.2.2.2.1 s19.2.2.2.2.2.2.2.2.2.1 s19.2.2.2.2.2.2.2.2.2.2.1 s19.2.2.2.2.2.2.2.2.2.2.2.1 s19.2.2.2.2.2.2.2.2.2.2.2.2 p0_paths p0_water p0_wall p0_kind p0_place p0_facing p0_age p0_seeds p0_season p0_z p0_spots).bind (fun q22 => ((fX6_trialGoesAsTold n s (nI c) q22.1 q22.2.1 q22.2.2.1 q22.2.2.2.1 q22.2.2.2.2.1 q22.2.2.2.2.2.1 q22.2.2.2.2.2.2.1 q22.2.2.2.2.2.2.2.1 q22.2.2.2.2.2.2.2.2.1 hN hs).bind (fun q24 => (if q24.1 = 0 then some (.inl (s19.1, (s19.2.1 + (1 : Int32)), q24.2.1, q22.2.1, q22.2.2.1, q22.2.2.2.1, q24.2.2.1, q24.2.2.2.1, q24.2.2.2.2.1, q22.2.2.2.2.2.2.2.1, q24.2.2.2.2.2, q22.2.2.2.2.2.2.2.2.2.1, q22.2.2.2.2.2.2.2.2.2.2)) else some (.inl ((s19.1 ||| ((1 : Int32) <<< (s19.2.1 &&& 31))), (s19.2.1 + (1 : Int32)), q24.2.1, q22.2.1, q22.2.2.1, q22.2.2.2.1, q24.2.2.1, q24.2.2.2.1, q24.2.2.2.2.1, q22.2.2.2.2.2.2.2.1, q24.2.2.2.2.2, q22.2.2.2.2.2.2.2.2.2.1, q22.2.2.2.2.2.2.2.2.2.2)))))))) : Option ((Int32 × Int32 × (Nat → Int32) × Int64 × Int64 × (Nat → Int32) × (Nat → Int32) × (Nat → Int32) × (Nat → Int32) × Int32 × Int32 × Int32 × (Nat → Int32)) ⊕ (Int32 × Int32 × (Nat → Int32) × Int64 × Int64 × (Nat → Int32) × (Nat → Int32) × (Nat → Int32) × (Nat → Int32) × Int32 × Int32 × Int32 × (Nat → Int32))))) n ((0 : Int32), (0 : Int32), p1_paths, p1_water, p1_wall, p1_kind, p1_place, p1_facing, p1_age, p1_seeds, p1_season, p1_z, p1_spots) = some v ∧ v.1 = nI (sbN (wnt (hN s) c z q (85 + 4 * t + 0)) 7) := by
          refine lp_ex (fun k S => ∃ T : PK, S = (nI (sbN (wnt (hN s) c z q (85 + 4 * t + 0)) k), nI k, T)) 7 (fun (v : Int32 × Int32 × PK) => v.1 = nI (sbN (wnt (hN s) c z q (85 + 4 * t + 0)) 7)) ⟨_, rfl⟩ (fun k S hk hI => ?_) (fun S hI => ?_) (by omega)
          · obtain ⟨T, rfl⟩ := hI
            obtain ⟨x, x1, x2⟩ := CP_copyWith n hn kk h8 ht1 (f := 0) (by decide) (v := k) (p1_paths := T.1) (p1_water := T.2.1) (p1_wall := T.2.2.1) (p1_kind := T.2.2.2.1) (p1_place := T.2.2.2.2.1) (p1_facing := T.2.2.2.2.2.1) (p1_age := T.2.2.2.2.2.2.1) (p1_seeds := T.2.2.2.2.2.2.2.1) (p1_season := T.2.2.2.2.2.2.2.2.1) (p1_z := T.2.2.2.2.2.2.2.2.2.1) (p1_spots := T.2.2.2.2.2.2.2.2.2.2)
            have hvk := IV_seed hv (show t < 8 by omega) (okv_kind k hk)
            obtain ⟨w, w1, w2'⟩ := e6_told n hn (hn := hN) (s := s) x2 hvk hbb hz hz40 hc
            have w2 : w.1 = if wnt (hN s) c z q (85 + 4 * t + 0) k = true then nI 1 else nI 0 := w2'
            rw [show nI 0 = (0 : Int32) from rfl] at x1
            dsimp +instances only
            rw [if_neg (Kle_F z_7 hk (by decide)), x1, Option.bind_some, w1, Option.bind_some, w2, nI_1]
            by_cases h : wnt (hN s) c z q (85 + 4 * t + 0) k = true
            · rw [if_neg (b01_T h), t_orI k (by omega) _ (sbN_lt _ k), ← sbN_T h]
              exact ⟨_, rfl, _, rfl⟩
            · rw [if_pos (b01_F h), ← sbN_F h]
              exact ⟨_, rfl, _, rfl⟩
          · obtain ⟨T, rfl⟩ := hI
            exact ⟨_, rfl, rfl⟩
        obtain ⟨x, x1, x2⟩ := h6
        simp only [fX6_fits, fX7_fits, s6, m6, m7, c6, c7, d6, d7, hat, y1, x1, Option.bind_some, Option.elim_some, Option.elim_none, t10, t00, if_true, if_false]
        exact ⟨_, _, rfl, rfl, x2.trans y2.symm, ⟨q, e, kk, y3, hv, hs'⟩, hT⟩
      · simp only [fX6_fits, fX7_fits, s6, m6, m7, c6, c7, d6, d7, g1, g2, Option.bind_some, Option.elim_some, Option.elim_none, t10, t00, if_true, if_false]
        exact ⟨_, _, rfl, rfl, rfl, hK, g3⟩
    · simp only [fX6_fits, fX7_fits, s6, m6, m7, c6, c7, g1, g2, Option.bind_some, Option.elim_some, Option.elim_none, t10, t00, if_true, if_false]
      exact ⟨_, _, rfl, rfl, rfl, hK, g3⟩
  · simp only [fX6_fits, fX7_fits, s6, m7, tL1, g1, g2, Option.bind_some, Option.elim_some, Option.elim_none, t10, t00, if_true, if_false]
    exact ⟨_, _, rfl, rfl, rfl, hK, g3⟩
theorem op_headings (n : Nat) (hn : 200 ≤ n) {p0_paths : Nat → Int32} {p0_water : Int64} {p0_wall : Int64} {p0_kind : Nat → Int32} {p0_place : Nat → Int32} {p0_facing : Nat → Int32} {p0_age : Nat → Int32} {p0_seeds : Int32} {p0_season : Int32} {p0_z : Int32} {p0_spots : Nat → Int32} {p1_paths : Nat → Int32} {p1_water : Int64} {p1_wall : Int64} {p1_kind : Nat → Int32} {p1_place : Nat → Int32} {p1_facing : Nat → Int32} {p1_age : Nat → Int32} {p1_seeds : Int32} {p1_season : Int32} {p1_z : Int32} {p1_spots : Nat → Int32} {r aside told found lives treads hb hs wd sz nu : Nat → Int32} {hN : Nat → Nat → Int32} {b : Nat} (hK : XK p0_paths p0_water p0_wall p0_kind p0_place p0_facing p0_age p0_seeds p0_season p0_z p0_spots r b) (hbb : b < 90000) (hT : XT told found) (hH : XH hN hb hs wd sz nu) (hl : LV lives) (ht : TR treads) (a1 a2 a3 : Int32) :
    ∃ x y, fX6_headings n a1 a2 a3 p0_paths p0_water p0_wall p0_kind p0_place p0_facing p0_age p0_seeds p0_season p0_z p0_spots p1_paths p1_water p1_wall p1_kind p1_place p1_facing p1_age p1_seeds p1_season p1_z p1_spots hN hb hs told = some x ∧ fX7_headings n a1 a2 a3 r aside found lives treads wd sz nu = some y ∧ x.1 = y.1 ∧ XK p0_paths p0_water p0_wall p0_kind p0_place p0_facing p0_age p0_seeds p0_season p0_z p0_spots y.2.1 b ∧ XT x.2.2.2.2.2.2.2.2.2.2.2.2 y.2.2.2 := by
  obtain ⟨t', f', g1, g2, g3⟩ := fnd n hT 0 (by decide) z_0 (L := -1000001) (by decide)
  obtain ⟨t5, f5, i1, i2, i3⟩ := fnd n hT 5 (by decide) z_5 (L := -1000006) (by decide)
  rcases shl n hH a1 with ⟨s, hs4, rfl, s6, s7, ⟨m0, m6, m7⟩ | ⟨m0, m6, m7⟩⟩ | ⟨s6, s7, m7⟩
  · simp only [fX6_headings, fX7_headings, s6, m6, m7, tL6, i1, i2, Option.bind_some, Option.elim_some, Option.elim_none, t10, t00, if_true, if_false]
    exact ⟨_, _, rfl, rfl, rfl, hK, i3⟩
  · have hK' := hK
    obtain ⟨q, e, kk, hr, hv, hs'⟩ := hK'
    have h8 := hv.1
    rcases sd n (a := a2) hr hv.1 kk.2.2.2.2.2.2.2.1 with ⟨t, ht1, rfl, c6, c7⟩ | ⟨c6, c7⟩
    · rcases ce n a3 with ⟨c, hc, rfl, d6, d7⟩ | ⟨-, d6, d7⟩
      · obtain ⟨-, hz2, ⟨z, hz40, hz⟩, hnu⟩ := hH s hs4
        obtain ⟨y, y1, y2, y3⟩ := e7_fitting n hn (aside := aside) hr hl ht hv hbb hs4 (hz2.trans hz) hz40 hc hnu (show t < 8 by omega) okv_face (by decide) (by decide)
        have hat : fX7_at n (nI t) (2 : Int32) = some (nI (85 + 4 * t + 2)) := e7_at n t 2
        rw [show nI 4 = (4 : Int32) from rfl] at y1
        have hbi := e7_bits n (by omega) (wnt (hN s) c z q (85 + 4 * t + 2)) (k := 4) (by decide)
        have h6 : ∃ v, lp (fun (s19 : Int32 × Int32 × (Nat → Int32) × Int64 × Int64 × (Nat → Int32) × (Nat → Int32) × (Nat → Int32) × (Nat → Int32) × Int32 × Int32 × Int32 × (Nat → Int32)) => ((if (4 : Int32) ≤ s19.2.1 then some (.inr (s19.1, s19.2.1, s19.2.2.1, s19.2.2.2.1, s19.2.2.2.2.1, s19.2.2.2.2.2.1, s19.2.2.2.2.2.2.1, s19.2.2.2.2.2.2.2.1, s19.2.2.2.2.2.2.2.2.1, s19.2.2.2.2.2.2.2.2.2.1, s19.2.2.2.2.2.2.2.2.2.2.1, s19.2.2.2.2.2.2.2.2.2.2.2.1, s19.2.2.2.2.2.2.2.2.2.2.2.2)) else ((fX2_copyWith n (nI t) (2 : Int32) s19.2.1 s19.2.2.1 s19.2.2.2.1 s19.2.2.2.2.1 s19.2.2.2.2.2.1 s19.2.2.2.2.2.2.1 s19.2.2.2.2.2.2.2.1 s19.2.2.2.2.2.2.2.2.1 s19.2.2.2.2.2.2.2.2.2.1 s19.2.2.2.2.2.2.2.2.2.2.1 s19.2.2.2.2.2.2.2.2.2.2.2.1 s19.2.2.2.2.2.2.2.2.2.2.2.2 p0_paths p0_water p0_wall p0_kind p0_place p0_facing p0_age p0_seeds p0_season p0_z p0_spots).bind (fun q22 => ((fX6_trialGoesAsTold n s (nI c) q22.1 q22.2.1 q22.2.2.1 q22.2.2.2.1 q22.2.2.2.2.1 q22.2.2.2.2.2.1 q22.2.2.2.2.2.2.1 q22.2.2.2.2.2.2.2.1 q22.2.2.2.2.2.2.2.2.1 hN hs).bind (fun q24 => (if q24.1 = 0 then some (.inl (s19.1, (s19.2.1 + (1 : Int32)), q24.2.1, q22.2.1, q22.2.2.1, q22.2.2.2.1, q24.2.2.1, q24.2.2.2.1, q24.2.2.2.2.1, q22.2.2.2.2.2.2.2.1, q24.2.2.2.2.2, q22.2.2.2.2.2.2.2.2.2.1, q22.2.2.2.2.2.2.2.2.2.2)) else some (.inl ((s19.1 + (1 : Int32)), (s19.2.1 + (1 : Int32)), q24.2.1, q22.2.1, q22.2.2.1, q22.2.2.2.1, q24.2.2.1, q24.2.2.2.1, q24.2.2.2.2.1, q22.2.2.2.2.2.2.2.1, q24.2.2.2.2.2, q22.2.2.2.2.2.2.2.2.2.1, q22.2.2.2.2.2.2.2.2.2.2)))))))) : Option ((Int32 × Int32 × (Nat → Int32) × Int64 × Int64 × (Nat → Int32) × (Nat → Int32) × (Nat → Int32) × (Nat → Int32) × Int32 × Int32 × Int32 × (Nat → Int32)) ⊕ (Int32 × Int32 × (Nat → Int32) × Int64 × Int64 × (Nat → Int32) × (Nat → Int32) × (Nat → Int32) × (Nat → Int32) × Int32 × Int32 × Int32 × (Nat → Int32))))) n ((0 : Int32), (0 : Int32), p1_paths, p1_water, p1_wall, p1_kind, p1_place, p1_facing, p1_age, p1_seeds, p1_season, p1_z, p1_spots) = some v ∧ v.1 = nI (ct (wnt (hN s) c z q (85 + 4 * t + 2)) 4) := by
          refine lp_ex (fun k S => ∃ T : PK, S = (nI (ct (wnt (hN s) c z q (85 + 4 * t + 2)) k), nI k, T)) 4 (fun (v : Int32 × Int32 × PK) => v.1 = nI (ct (wnt (hN s) c z q (85 + 4 * t + 2)) 4)) ⟨_, rfl⟩ (fun k S hk hI => ?_) (fun S hI => ?_) (by omega)
          · obtain ⟨T, rfl⟩ := hI
            obtain ⟨x, x1, x2⟩ := CP_copyWith n hn kk h8 ht1 (f := 2) (by decide) (v := k) (p1_paths := T.1) (p1_water := T.2.1) (p1_wall := T.2.2.1) (p1_kind := T.2.2.2.1) (p1_place := T.2.2.2.2.1) (p1_facing := T.2.2.2.2.2.1) (p1_age := T.2.2.2.2.2.2.1) (p1_seeds := T.2.2.2.2.2.2.2.1) (p1_season := T.2.2.2.2.2.2.2.2.1) (p1_z := T.2.2.2.2.2.2.2.2.2.1) (p1_spots := T.2.2.2.2.2.2.2.2.2.2)
            have hvk := IV_seed hv (show t < 8 by omega) (okv_face k hk)
            obtain ⟨w, w1, w2'⟩ := e6_told n hn (hn := hN) (s := s) x2 hvk hbb hz hz40 hc
            have w2 : w.1 = if wnt (hN s) c z q (85 + 4 * t + 2) k = true then nI 1 else nI 0 := w2'
            rw [show nI 2 = (2 : Int32) from rfl] at x1
            dsimp +instances only
            rw [if_neg (Kle_F z_4 hk (by decide)), x1, Option.bind_some, w1, Option.bind_some, w2, nI_1, nI_1]
            by_cases h : wnt (hN s) c z q (85 + 4 * t + 2) k = true
            · rw [if_neg (b01_T h), ← ct_T h]
              exact ⟨_, rfl, _, rfl⟩
            · rw [if_pos (b01_F h), ← ct_F h]
              exact ⟨_, rfl, _, rfl⟩
          · obtain ⟨T, rfl⟩ := hI
            exact ⟨_, rfl, rfl⟩
        obtain ⟨x, x1, x2⟩ := h6
        rw [← y2] at hbi
        simp only [fX6_headings, fX7_headings, s6, m6, m7, c6, c7, d6, d7, hat, y1, x1, hbi, Option.bind_some, Option.elim_some, Option.elim_none, t10, t00, if_true, if_false]
        exact ⟨_, _, rfl, rfl, x2, ⟨q, e, kk, y3, hv, hs'⟩, hT⟩
      · simp only [fX6_headings, fX7_headings, s6, m6, m7, c6, c7, d6, d7, g1, g2, Option.bind_some, Option.elim_some, Option.elim_none, t10, t00, if_true, if_false]
        exact ⟨_, _, rfl, rfl, rfl, hK, g3⟩
    · simp only [fX6_headings, fX7_headings, s6, m6, m7, c6, c7, g1, g2, Option.bind_some, Option.elim_some, Option.elim_none, t10, t00, if_true, if_false]
      exact ⟨_, _, rfl, rfl, rfl, hK, g3⟩
  · simp only [fX6_headings, fX7_headings, s6, m7, tL1, g1, g2, Option.bind_some, Option.elim_some, Option.elim_none, t10, t00, if_true, if_false]
    exact ⟨_, _, rfl, rfl, rfl, hK, g3⟩
