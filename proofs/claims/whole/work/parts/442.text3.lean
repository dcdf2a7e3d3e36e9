/-! texts: op -/
theorem op_text (n : Nat) (hn : 200 ≤ n) {p0_paths : Nat → Int32} {p0_water : Int64} {p0_wall : Int64} {p0_kind : Nat → Int32} {p0_place : Nat → Int32} {p0_facing : Nat → Int32} {p0_age : Nat → Int32} {p0_seeds : Int32} {p0_season : Int32} {p0_z : Int32} {p0_spots : Nat → Int32} {p1_paths : Nat → Int32} {p1_water : Int64} {p1_wall : Int64} {p1_kind : Nat → Int32} {p1_place : Nat → Int32} {p1_facing : Nat → Int32} {p1_age : Nat → Int32} {p1_seeds : Int32} {p1_season : Int32} {p1_z : Int32} {p1_spots : Nat → Int32} {r tb mt : Nat → Int32} {tl md : Int32} {b : Nat} (hK : XK p0_paths p0_water p0_wall p0_kind p0_place p0_facing p0_age p0_seeds p0_season p0_z p0_spots r b) (hP : XP tb tl mt md) (ts tst te tv mb me ms mv mw : Int32) (items gt : Nat → Int32) (im sdt : Int32) :
    ∃ x y, fX6_text n p0_paths p0_water p0_wall p0_kind p0_place p0_facing p0_age p0_seeds p0_season p0_z p0_spots p1_paths p1_water p1_wall p1_kind p1_place p1_facing p1_age p1_seeds p1_season p1_z p1_spots tb tl ts tst te tv = some x ∧ fX7_text n r mt md mb me ms mv mw items im sdt gt = some y ∧ x.1 = y.1 ∧ XK x.2.1 x.2.2.1 x.2.2.2.1 x.2.2.2.2.1 x.2.2.2.2.2.1 x.2.2.2.2.2.2.1 x.2.2.2.2.2.2.2.1 x.2.2.2.2.2.2.2.2.1 x.2.2.2.2.2.2.2.2.2.1 x.2.2.2.2.2.2.2.2.2.2.1 x.2.2.2.2.2.2.2.2.2.2.2.1 y.2.1 b ∧ XP tb x.2.2.2.2.2.2.2.2.2.2.2.2.2.2.2.2.2.2.2.2.2.2.2.1 mt y.2.2.1 := by
  obtain ⟨q, e, kk, hr, hv, hs⟩ := hK
  obtain ⟨L, hL, rfl, rfl, hby⟩ := hP
  have h : BY tb mt (fun i => (tb i).toNatClampNeg) L := ⟨hL, fun i hi => by
    obtain ⟨v, h1, h2, h3⟩ := hby i hi
    dsimp only
    rw [h2, h3, nI_clamp (by omega)]; exact ⟨h1, rfl, rfl⟩⟩
  obtain ⟨p, p1, p2⟩ := CP_copyFrom n hn kk (p1_paths := p1_paths) (p1_water := p1_water) (p1_wall := p1_wall) (p1_kind := p1_kind) (p1_place := p1_place) (p1_facing := p1_facing) (p1_age := p1_age) (p1_seeds := p1_seeds) (p1_season := p1_season) (p1_z := p1_z) (p1_spots := p1_spots)
  obtain ⟨st, en, s6, v6, s7, v7, n6, n7, -, hk⟩ := nextJ n hn h (Nat.zero_le L) ts tst tv mb ms mv
  rw [show nI 0 = (0 : Int32) from rfl] at n6 n7
  have h1r : r (1 : Int32).toNatClampNeg = nI (q 1) := hr.at 1 (by decide) (by decide)
  obtain ⟨g, g1, g2⟩ : ∃ v, lp (fun (s1 : Int32 × (Nat → Int32)) => ((if (36 : Int32) ≤ s1.1 then some (.inr (s1.1, s1.2)) else (if vi ((13 : Int32) + s1.1) 117 then (if vi s1.1 36 then some (.inl ((s1.1 + (1 : Int32)), (upd s1.2 s1.1.toNatClampNeg (r ((13 : Int32) + s1.1).toNatClampNeg)))) else none) else none)) : Option ((Int32 × (Nat → Int32)) ⊕ (Int32 × (Nat → Int32))))) n ((0 : Int32), gt) = some v ∧ ∀ c, c < 36 → v.2 c = nI (q (13 + c)) := by
    refine lp_ms (fun s => ∃ k f, s = (nI k, f) ∧ k ≤ 36 ∧ ∀ c, c < k → f c = nI (q (13 + c))) (fun s => 36 - s.1.toNatClampNeg) _ ?_ n _ ⟨0, gt, rfl, by decide, fun c hc => absurd hc (Nat.not_lt_zero _)⟩ (by dsimp only; omega)
    rintro s ⟨k, f, rfl, hk, hf⟩
    dsimp +instances only
    by_cases hlt : k < 36
    · rw [if_neg (Kle_F z_36 hlt (by decide)), z_13, nI_add, if_pos (vi_N (show 13 + k < 117 by omega) (by decide)), if_pos (vi_N hlt (by decide)), nI_clamp (show 13 + k < 2 ^ 31 by omega), nI_clamp (show k < 2 ^ 31 by omega), z_1, nI_add]
      refine Or.inr ⟨_, rfl, ⟨k + 1, _, rfl, by omega, fun c hc => ?_⟩, by dsimp only; rw [nI_clamp (by omega)]; omega⟩
      by_cases ec : c = k
      · subst ec; rw [upd_T rfl]; exact hr.at (13 + c) (by omega) (by omega)
      · rw [upd_F (by omega)]; exact hf c (by omega)
    · have : k = 36 := by omega
      subst this
      rw [if_pos (by decide)]
      exact Or.inl ⟨_, rfl, hf⟩
  obtain ⟨t, v, w, t1, l1, l2, l3⟩ := readJ n hn h hk p2 hv items g.2 g2
  rw [show nI 0 = (0 : Int32) from rfl] at t1
  unfold fX6_text fX7_text fX1_read fX5_begin
  rw [p1, Option.bind_some, n6, Option.bind_some, Option.bind_some, g1, Option.bind_some, n7, Option.bind_some, h1r]
  dsimp +instances only
  rw [t1, Option.bind_some, l1, l2, Option.bind_some, Option.bind_some]
  rcases l3 with ⟨x, q', m, rfl, x1, hm, x2, hv', hq1, hC, w1, w2, w3, w4, w5⟩ | ⟨x, f, rfl, hf, x1, w1, w4⟩
  · rw [Sum.elim_inr, Option.bind_some, x1, if_neg (nI_pos (by omega)), w3, if_pos (show (0 : Int32) = 0 from rfl), w4, must1, w1, w2]
    obtain ⟨st3, en3, s63, v63, s73, v73, -, n73, -, -⟩ := nextJ n hn h (Nat.le_refl L) ts tst tv (nI L) (0 : Int32) w.2.2.2.1
    obtain ⟨z, z1, z2, z3⟩ := toldAll n hn hr hv hC hm
    obtain ⟨o, o1, o2⟩ := CP_copyFrom n hn x2 (p1_paths := p0_paths) (p1_water := p0_water) (p1_wall := p0_wall) (p1_kind := p0_kind) (p1_place := p0_place) (p1_facing := p0_facing) (p1_age := p0_age) (p1_seeds := p0_seeds) (p1_season := p0_season) (p1_z := p0_z) (p1_spots := p0_spots)
    rw [n73, Option.bind_some, Option.bind_some, if_pos (show (0 : Int32) = 0 from rfl), w5, z1, Option.bind_some, o1, Option.bind_some]
    exact ⟨_, _, rfl, rfl, z2.symm, ⟨q', e, o2, z3, hv', hs.up hq1⟩, XP_0 tb mt⟩
  · rw [Sum.elim_inl, Option.bind_some, x1, if_pos (t_flt f (by omega))]
    rcases w4 with w4 | ⟨w4, w3⟩
    · rw [w4, w1]
      by_cases w3 : w.2.2.1 = 0
      · rw [if_pos w3, mustW, Option.bind_some, if_neg (show ¬ (1 : Int32) = 0 by decide)]
        exact ⟨_, _, rfl, rfl, rfl, ⟨q, e, kk, hr, hv, hs⟩, XP_0 tb mt⟩
      · rw [if_neg w3, mustW, Option.bind_some, if_neg (show ¬ (1 : Int32) = 0 by decide)]
        exact ⟨_, _, rfl, rfl, rfl, ⟨q, e, kk, hr, hv, hs⟩, XP_0 tb mt⟩
    · rw [w4, w1, if_neg w3, must0, Option.bind_some, if_neg (show ¬ (1 : Int32) = 0 by decide)]
      exact ⟨_, _, rfl, rfl, rfl, ⟨q, e, kk, hr, hv, hs⟩, XP_0 tb mt⟩
