/-! when, bare -/
theorem RM.seeds {r : Nat → Int32} {q : Nat → Nat} {e : Nat → Int32} (h : RM r q e) : r (1 : Int32).toNatClampNeg = nI (q 1) := h.at 1 (by decide) (by decide)
theorem its_1 (q : Nat → Nat) : its 1 q = ssn q := rfl
theorem CP_pass1 (n : Nat) (hn : 100 ≤ n) {p0_paths : Nat → Int32} {p0_water : Int64} {p0_wall : Int64} {p0_kind : Nat → Int32} {p0_place : Nat → Int32} {p0_facing : Nat → Int32} {p0_age : Nat → Int32} {p0_seeds : Int32} {p0_season : Int32} {p0_z : Int32} {p0_spots : Nat → Int32} {q : Nat → Nat} {e : Nat → Int32} {b k : Nat} (kk : CP p0_paths p0_water p0_wall p0_kind p0_place p0_facing p0_age p0_seeds p0_season p0_z p0_spots (its k q) e) (hv : IV b q) (hb : b + k < 99000) :
    ∃ v, fX2_pass n (1 : Int32) p0_paths p0_water p0_wall p0_kind p0_place p0_facing p0_age p0_seeds p0_season = some v ∧ CP v.1 p0_water p0_wall p0_kind v.2.1 v.2.2.1 v.2.2.2.1 p0_seeds v.2.2.2.2 p0_z p0_spots (its (k + 1) q) e :=
  CP_pass n hn (N := 1) kk (its_k hv k).1 hb (by decide)
/-- when: the class's loop -/
theorem e6_whenL (n : Nat) (hn : 200 ≤ n) {v : PK} {told : Nat → Int32} {q : Nat → Nat} {e : Nat → Int32} {b x y : Nat} (kk : CP v.1 v.2.1 v.2.2.1 v.2.2.2.1 v.2.2.2.2.1 v.2.2.2.2.2.1 v.2.2.2.2.2.2.1 v.2.2.2.2.2.2.2.1 v.2.2.2.2.2.2.2.2.1 v.2.2.2.2.2.2.2.2.2.1 v.2.2.2.2.2.2.2.2.2.2 q e) (hv : IV b q) (hb : b < 90000) (hx : x < 36) (hy : y < 36) :
    ∃ u, lp (fun (s11 : Int32 × (Nat → Int32) × (Nat → Int32) × (Nat → Int32) × (Nat → Int32) × Int32) => ((if (60 : Int32) < s11.1 then some (.inr (.inl (s11.1, s11.2.1, s11.2.2.1, s11.2.2.2.1, s11.2.2.2.2.1, s11.2.2.2.2.2))) else ((fX2_pathSet n s11.2.1).bind (fun q14 => ((fX0_areJoined n (nI x) (nI y) q14).bind (fun q16 => (if q16 = 0 then ((fX2_pass n (1 : Int32) s11.2.1 v.2.1 v.2.2.1 v.2.2.2.1 s11.2.2.1 s11.2.2.2.1 s11.2.2.2.2.1 v.2.2.2.2.2.2.2.1 s11.2.2.2.2.2).bind (fun q19 => some (.inl ((s11.1 + (1 : Int32)), q19.1, q19.2.1, q19.2.2.1, q19.2.2.2.1, q19.2.2.2.2)))) else some (.inr (.inr (s11.1, s11.2.1, v.2.1, v.2.2.1, v.2.2.2.1, s11.2.2.1, s11.2.2.2.1, s11.2.2.2.2.1, v.2.2.2.2.2.2.2.1, s11.2.2.2.2.2, v.2.2.2.2.2.2.2.2.2.1, v.2.2.2.2.2.2.2.2.2.2, told))))))))) : Option ((Int32 × (Nat → Int32) × (Nat → Int32) × (Nat → Int32) × (Nat → Int32) × Int32) ⊕ ((Int32 × (Nat → Int32) × (Nat → Int32) × (Nat → Int32) × (Nat → Int32) × Int32) ⊕ (Int32 × (Nat → Int32) × Int64 × Int64 × (Nat → Int32) × (Nat → Int32) × (Nat → Int32) × (Nat → Int32) × Int32 × Int32 × Int32 × (Nat → Int32) × (Nat → Int32)))))) n ((0 : Int32), v.1, v.2.2.2.2.1, v.2.2.2.2.2.1, v.2.2.2.2.2.2.1, v.2.2.2.2.2.2.2.2.1) = some u ∧
      ((∃ k rest, u = .inr rest ∧ rest.1 = nI k ∧ k ≤ 60 ∧ jn (hp (its k q)) x y = true ∧ (∀ j, j < k → ¬ jn (hp (its j q)) x y = true) ∧ rest.2.2.2.2.2.2.2.2.2.2.2.2 = told) ∨ (∃ l, u = .inl l ∧ ∀ j, j < 61 → ¬ jn (hp (its j q)) x y = true)) := by
  refine lp_ms (fun s => ∃ k P L F A sn, s = (nI k, P, L, F, A, sn) ∧ k ≤ 61 ∧ CP P v.2.1 v.2.2.1 v.2.2.2.1 L F A v.2.2.2.2.2.2.2.1 sn v.2.2.2.2.2.2.2.2.2.1 v.2.2.2.2.2.2.2.2.2.2 (its k q) e ∧ ∀ j, j < k → ¬ jn (hp (its j q)) x y = true) (fun s => 61 - s.1.toNatClampNeg) _ ?_ n _ ⟨0, _, _, _, _, _, rfl, by decide, kk, fun j hj => absurd hj (Nat.not_lt_zero _)⟩ (by omega)
  rintro s ⟨k, P, L, F, A, sn, rfl, hk, ck, hno⟩
  dsimp +instances only
  rw [nI_clamp (by omega)]
  by_cases h : k < 61
  · rw [if_neg (Klt_F z_60 (by omega) (by decide)), e2_pathSet n (by omega) ck.1 (its_k hv k).1, Option.bind_some, e0_areJoined n (by omega) _ hx hy, Option.bind_some]
    by_cases hj : jn (hp (its k q)) x y = true
    · rw [if_neg (b01_T hj)]
      exact Or.inl ⟨_, rfl, Or.inl ⟨k, _, rfl, rfl, by omega, hj, hno, rfl⟩⟩
    · obtain ⟨w, w1, w2⟩ := CP_pass1 n (by omega) ck hv (by omega)
      rw [if_pos (b01_F hj), w1, Option.bind_some, z_1, nI_add]
      refine Or.inr ⟨_, rfl, ⟨k + 1, _, _, _, _, _, rfl, by omega, w2, fun j hj2 => ?_⟩, by dsimp only; rw [nI_clamp (by omega)]; omega⟩
      by_cases e : j = k
      · subst e; exact hj
      · exact hno j (by omega)
  · have : k = 61 := by omega
    subst this
    rw [if_pos (Klt_T z_60 (by decide) (by decide))]
    exact Or.inl ⟨_, rfl, Or.inr ⟨_, rfl, hno⟩⟩
theorem e7_whenL (n : Nat) (hn : 200 ≤ n) {r steps queue lives treads : Nat → Int32} {q : Nat → Nat} {e : Nat → Int32} {b x y : Nat} (hr : RM r q e) (hl : LV lives) (ht : TR treads) (hv : IV b q) (hb : b < 90000) (hx : x < 36) (hy : y < 36) :
    ∃ u, lp (fun (s6 : Int32 × (Nat → Int32) × (Nat → Int32) × (Nat → Int32)) => ((if (60 : Int32) ≤ s6.1 then some (.inr (s6.1, s6.2.1, s6.2.2.1, s6.2.2.2)) else ((fX7_areJoined n (nI x) (nI y) s6.2.1 s6.2.2.1 s6.2.2.2).bind (fun q9 => (if q9.1 = 0 then ((fX7_season n s6.2.1 lives treads).bind (fun q12 => some (.inl ((s6.1 + (1 : Int32)), q12, q9.2.1, q9.2.2)))) else some (.inr (s6.1, s6.2.1, q9.2.1, q9.2.2)))))) : Option ((Int32 × (Nat → Int32) × (Nat → Int32) × (Nat → Int32)) ⊕ (Int32 × (Nat → Int32) × (Nat → Int32) × (Nat → Int32))))) n ((0 : Int32), r, steps, queue) = some u ∧
      ∃ k, u.1 = nI k ∧ k ≤ 60 ∧ RM u.2.1 (its k q) e ∧ (∀ j, j < k → ¬ jn (hp (its j q)) x y = true) ∧ (jn (hp (its k q)) x y = true ∨ k = 60) := by
  refine lp_ms (fun s => ∃ k R st qu, s = (nI k, R, st, qu) ∧ k ≤ 60 ∧ RM R (its k q) e ∧ ∀ j, j < k → ¬ jn (hp (its j q)) x y = true) (fun s => 60 - s.1.toNatClampNeg) _ ?_ n _ ⟨0, _, _, _, rfl, by decide, hr, fun j hj => absurd hj (Nat.not_lt_zero _)⟩ (by omega)
  rintro s ⟨k, R, st, qu, rfl, hk, hR, hno⟩
  dsimp +instances only
  rw [nI_clamp (by omega)]
  by_cases h : k < 60
  · obtain ⟨v, w1, w2⟩ := e7_areJoined n (by omega) (steps := st) (queue := qu) hR (its_k hv k).1 hx hy
    rw [if_neg (Kle_F z_60 h (by decide)), w1, Option.bind_some, w2]
    by_cases hj : jn (hp (its k q)) x y = true
    · rw [if_neg (b01_T hj)]
      exact Or.inl ⟨_, rfl, k, rfl, by omega, hR, hno, Or.inl hj⟩
    · obtain ⟨R', r1, r2⟩ := e7_season n (by omega) hR hl ht (its_k hv k).1 (by omega)
      rw [if_pos (b01_F hj), r1, Option.bind_some, z_1, nI_add]
      refine Or.inr ⟨_, rfl, ⟨k + 1, _, _, _, rfl, by omega, r2, fun j hj2 => ?_⟩, by dsimp only; rw [nI_clamp (by omega)]; omega⟩
      by_cases e : j = k
      · subst e; exact hj
      · exact hno j (by omega)
  · have : k = 60 := by omega
    subst this
    rw [if_pos (Kle_T z_60 (by decide) (by decide))]
    exact Or.inl ⟨_, rfl, 60, rfl, by decide, hR, hno, Or.inr rfl⟩
theorem op_when (n : Nat) (hn : 200 ≤ n) {p0_paths : Nat → Int32} {p0_water : Int64} {p0_wall : Int64} {p0_kind : Nat → Int32} {p0_place : Nat → Int32} {p0_facing : Nat → Int32} {p0_age : Nat → Int32} {p0_seeds : Int32} {p0_season : Int32} {p0_z : Int32} {p0_spots : Nat → Int32} {p1_paths : Nat → Int32} {p1_water : Int64} {p1_wall : Int64} {p1_kind : Nat → Int32} {p1_place : Nat → Int32} {p1_facing : Nat → Int32} {p1_age : Nat → Int32} {p1_seeds : Int32} {p1_season : Int32} {p1_z : Int32} {p1_spots : Nat → Int32} {r aside told found steps queue lives treads : Nat → Int32} {b : Nat} (hK : XK p0_paths p0_water p0_wall p0_kind p0_place p0_facing p0_age p0_seeds p0_season p0_z p0_spots r b) (hb : b < 90000) (hT : XT told found) (hl : LV lives) (ht : TR treads) (a1 a2 : Int32) :
    ∃ x y, fX6_when n a1 a2 p0_paths p0_water p0_wall p0_kind p0_place p0_facing p0_age p0_seeds p0_season p0_z p0_spots p1_paths p1_water p1_wall p1_kind p1_place p1_facing p1_age p1_seeds p1_season p1_z p1_spots told = some x ∧ fX7_when n a1 a2 r aside found steps queue lives treads = some y ∧ x.1 = y.1 ∧ XK p0_paths p0_water p0_wall p0_kind p0_place p0_facing p0_age p0_seeds p0_season p0_z p0_spots y.2.1 b ∧ XT x.2.2.2.2.2.2.2.2.2.2.2.2 y.2.2.2.1 := by
  obtain ⟨t', f', g1, g2, g3⟩ := fnd n hT 0 (by decide) z_0 (L := -1000001) (by decide)
  obtain ⟨t3, f3, i1, i2, i3⟩ := fnd n hT 3 (by decide) z_3 (L := -1000004) (by decide)
  have hK' := hK
  obtain ⟨q, e, kk, hr, hv, hs⟩ := hK'
  rcases ac n a1 a2 with ⟨x, y, hx, hy, rfl, rfl, c1, c2, c3⟩ | ⟨c1, c3⟩ | ⟨c1, c2, c3⟩
  · obtain ⟨v, v1, v2⟩ := CP_copyFrom n hn kk (p1_paths := p1_paths) (p1_water := p1_water) (p1_wall := p1_wall) (p1_kind := p1_kind) (p1_place := p1_place) (p1_facing := p1_facing) (p1_age := p1_age) (p1_seeds := p1_seeds) (p1_season := p1_season) (p1_z := p1_z) (p1_spots := p1_spots)
    obtain ⟨a, a1, a2⟩ := e7_copyRow n hn aside r
    obtain ⟨u6, l6, d6⟩ := e6_whenL n hn (told := told) v2 hv hb hx hy
    obtain ⟨u7, l7, k, d1, d2, d3, d4, d5⟩ := e7_whenL n hn (steps := steps) (queue := queue) hr hl ht hv hb hx hy
    obtain ⟨w, w1, w2⟩ := e7_areJoined n (by omega) (steps := u7.2.2.1) (queue := u7.2.2.2) d3 (its_k hv k).1 hx hy
    obtain ⟨c, e1, e2⟩ := e7_copyRow n hn u7.2.1 a
    have hX : XK p0_paths p0_water p0_wall p0_kind p0_place p0_facing p0_age p0_seeds p0_season p0_z p0_spots c b := ⟨q, e, kk, hr.eqv fun i hi => (e2 i hi).trans (a2 i hi), hv, hs⟩
    have h0 : (0 ≤ (-1 : Int32)) = False := eq_false (by decide)
    rcases d6 with ⟨k6, rest, rfl, j1, j2, j3, j4, j5⟩ | ⟨l, rfl, j1⟩
    · have hkk : k = k6 := by
        rcases Nat.lt_trichotomy k k6 with h | h | h
        · rcases d5 with h5 | h5
          · exact absurd h5 (j4 k h)
          · omega
        · exact h
        · exact absurd j3 (d4 k6 h)
      subst hkk
      have hk0 : (0 ≤ nI k) = True := eq_true (nI_pos' (by omega))
      rw [if_pos j3] at w2
      simp only [fX6_when, fX7_when, c1, c2, c3, v1, l6, a1, l7, w1, w2, fX7_putBack, e1, fX7_orNone, d1, hk0, Sum.elim_inr, Option.bind_some, Option.elim_some, Option.elim_none, t10, t00, if_true, if_false]
      exact ⟨_, _, rfl, rfl, j1, hX, by rw [j5]; exact hT⟩
    · have hnj : ¬ jn (hp (its k q)) x y = true := j1 k (by omega)
      rw [if_neg hnj] at w2
      simp only [fX6_when, fX7_when, c1, c2, c3, v1, l6, a1, l7, w1, w2, fX7_putBack, e1, fX7_orNone, h0, i1, i2, Sum.elim_inl, Option.bind_some, Option.elim_some, Option.elim_none, t10, t00, if_true, if_false]
      exact ⟨_, _, rfl, rfl, rfl, hX, i3⟩
  · simp only [fX6_when, fX7_when, c1, c3, g1, g2, Option.bind_some, Option.elim_some, Option.elim_none, t10, t00, if_true, if_false]
    exact ⟨_, _, rfl, rfl, rfl, hK, g3⟩
  · simp only [fX6_when, fX7_when, c1, c2, c3, g1, g2, Option.bind_some, Option.elim_some, Option.elim_none, t10, t00, if_true, if_false]
    exact ⟨_, _, rfl, rfl, rfl, hK, g3⟩
theorem ct_zero {p : Nat → Bool} : ct p 36 = 0 ↔ ∀ i, i < 36 → ¬ p i = true := by
  constructor
  · intro h i hi hpi
    have := ct_mono_lt (p := fun _ => false) (q := p) (fun c h => absurd h (by decide)) hi hpi (by decide)
    omega
  · intro h; exact ct_none fun i hi => bt_F (h i hi)
/-- bare: likewise -/
theorem e6_bareL (n : Nat) (hn : 200 ≤ n) {v : PK} {told : Nat → Int32} {q : Nat → Nat} {e : Nat → Int32} {b : Nat} (kk : CP v.1 v.2.1 v.2.2.1 v.2.2.2.1 v.2.2.2.2.1 v.2.2.2.2.2.1 v.2.2.2.2.2.2.1 v.2.2.2.2.2.2.2.1 v.2.2.2.2.2.2.2.2.1 v.2.2.2.2.2.2.2.2.2.1 v.2.2.2.2.2.2.2.2.2.2 q e) (hv : IV b q) (hb : b < 90000) :
    ∃ u, lp (fun (s3 : Int32 × (Nat → Int32) × (Nat → Int32) × (Nat → Int32) × (Nat → Int32) × Int32) => ((if (60 : Int32) < s3.1 then some (.inr (.inl (s3.1, s3.2.1, s3.2.2.1, s3.2.2.2.1, s3.2.2.2.2.1, s3.2.2.2.2.2))) else ((fX2_pathSet n s3.2.1).bind (fun q6 => (if q6 = (0 : Int64) then some (.inr (.inr (s3.1, s3.2.1, v.2.1, v.2.2.1, v.2.2.2.1, s3.2.2.1, s3.2.2.2.1, s3.2.2.2.2.1, v.2.2.2.2.2.2.2.1, s3.2.2.2.2.2, v.2.2.2.2.2.2.2.2.2.1, v.2.2.2.2.2.2.2.2.2.2, told))) else ((fX2_pass n (1 : Int32) s3.2.1 v.2.1 v.2.2.1 v.2.2.2.1 s3.2.2.1 s3.2.2.2.1 s3.2.2.2.2.1 v.2.2.2.2.2.2.2.1 s3.2.2.2.2.2).bind (fun q9 => some (.inl ((s3.1 + (1 : Int32)), q9.1, q9.2.1, q9.2.2.1, q9.2.2.2.1, q9.2.2.2.2)))))))) : Option ((Int32 × (Nat → Int32) × (Nat → Int32) × (Nat → Int32) × (Nat → Int32) × Int32) ⊕ ((Int32 × (Nat → Int32) × (Nat → Int32) × (Nat → Int32) × (Nat → Int32) × Int32) ⊕ (Int32 × (Nat → Int32) × Int64 × Int64 × (Nat → Int32) × (Nat → Int32) × (Nat → Int32) × (Nat → Int32) × Int32 × Int32 × Int32 × (Nat → Int32) × (Nat → Int32)))))) n ((0 : Int32), v.1, v.2.2.2.2.1, v.2.2.2.2.2.1, v.2.2.2.2.2.2.1, v.2.2.2.2.2.2.2.2.1) = some u ∧
      ((∃ k rest, u = .inr rest ∧ rest.1 = nI k ∧ k ≤ 60 ∧ ct (hp (its k q)) 36 = 0 ∧ (∀ j, j < k → ¬ ct (hp (its j q)) 36 = 0) ∧ rest.2.2.2.2.2.2.2.2.2.2.2.2 = told) ∨ (∃ l, u = .inl l ∧ ∀ j, j < 61 → ¬ ct (hp (its j q)) 36 = 0)) := by
  refine lp_ms (fun s => ∃ k P L F A sn, s = (nI k, P, L, F, A, sn) ∧ k ≤ 61 ∧ CP P v.2.1 v.2.2.1 v.2.2.2.1 L F A v.2.2.2.2.2.2.2.1 sn v.2.2.2.2.2.2.2.2.2.1 v.2.2.2.2.2.2.2.2.2.2 (its k q) e ∧ ∀ j, j < k → ¬ ct (hp (its j q)) 36 = 0) (fun s => 61 - s.1.toNatClampNeg) _ ?_ n _ ⟨0, _, _, _, _, _, rfl, by decide, kk, fun j hj => absurd hj (Nat.not_lt_zero _)⟩ (by omega)
  rintro s ⟨k, P, L, F, A, sn, rfl, hk, ck, hno⟩
  dsimp +instances only
  rw [nI_clamp (by omega)]
  by_cases h : k < 61
  · rw [if_neg (Klt_F z_60 (by omega) (by decide)), e2_pathSet n (by omega) ck.1 (its_k hv k).1, Option.bind_some]
    by_cases hj : ct (hp (its k q)) 36 = 0
    · rw [if_pos (sb_zero.mpr (ct_zero.mp hj))]
      exact Or.inl ⟨_, rfl, Or.inl ⟨k, _, rfl, rfl, by omega, hj, hno, rfl⟩⟩
    · obtain ⟨w, w1, w2⟩ := CP_pass1 n (by omega) ck hv (by omega)
      rw [if_neg (fun h => hj (ct_zero.mpr (sb_zero.mp h))), w1, Option.bind_some, z_1, nI_add]
      refine Or.inr ⟨_, rfl, ⟨k + 1, _, _, _, _, _, rfl, by omega, w2, fun j hj2 => ?_⟩, by dsimp only; rw [nI_clamp (by omega)]; omega⟩
      by_cases e : j = k
      · subst e; exact hj
      · exact hno j (by omega)
  · have : k = 61 := by omega
    subst this
    rw [if_pos (Klt_T z_60 (by decide) (by decide))]
    exact Or.inl ⟨_, rfl, Or.inr ⟨_, rfl, hno⟩⟩
theorem e7_bareL (n : Nat) (hn : 200 ≤ n) {r lives treads : Nat → Int32} {q : Nat → Nat} {e : Nat → Int32} {b : Nat} (hr : RM r q e) (hl : LV lives) (ht : TR treads) (hv : IV b q) (hb : b < 90000) :
    ∃ u, lp (fun (s3 : Int32 × (Nat → Int32)) => ((if (60 : Int32) ≤ s3.1 then some (.inr (s3.1, s3.2)) else ((fX7_pathsNow n s3.2).bind (fun q6 => (if q6 ≤ 0 then some (.inr (s3.1, s3.2)) else ((fX7_season n s3.2 lives treads).bind (fun q9 => some (.inl ((s3.1 + (1 : Int32)), q9)))))))) : Option ((Int32 × (Nat → Int32)) ⊕ (Int32 × (Nat → Int32))))) n ((0 : Int32), r) = some u ∧
      ∃ k, u.1 = nI k ∧ k ≤ 60 ∧ RM u.2 (its k q) e ∧ (∀ j, j < k → ¬ ct (hp (its j q)) 36 = 0) ∧ (ct (hp (its k q)) 36 = 0 ∨ k = 60) := by
  refine lp_ms (fun s => ∃ k R, s = (nI k, R) ∧ k ≤ 60 ∧ RM R (its k q) e ∧ ∀ j, j < k → ¬ ct (hp (its j q)) 36 = 0) (fun s => 60 - s.1.toNatClampNeg) _ ?_ n _ ⟨0, _, rfl, by decide, hr, fun j hj => absurd hj (Nat.not_lt_zero _)⟩ (by omega)
  rintro s ⟨k, R, rfl, hk, hR, hno⟩
  have hle := ct_le (hp (its k q)) 36
  dsimp +instances only
  rw [nI_clamp (by omega)]
  by_cases h : k < 60
  · rw [if_neg (Kle_F z_60 h (by decide)), e7_pathsNow n (by omega) hR (its_k hv k).1, Option.bind_some]
    by_cases hj : ct (hp (its k q)) 36 = 0
    · rw [if_pos (leK_T z_0 (by omega) (by decide))]
      exact Or.inl ⟨_, rfl, k, rfl, by omega, hR, hno, Or.inl hj⟩
    · obtain ⟨R', r1, r2⟩ := e7_season n (by omega) hR hl ht (its_k hv k).1 (by omega)
      rw [if_neg (leK_F z_0 (by omega) (by omega)), r1, Option.bind_some, z_1, nI_add]
      refine Or.inr ⟨_, rfl, ⟨k + 1, _, rfl, by omega, r2, fun j hj2 => ?_⟩, by dsimp only; rw [nI_clamp (by omega)]; omega⟩
      by_cases e : j = k
      · subst e; exact hj
      · exact hno j (by omega)
  · have : k = 60 := by omega
    subst this
    rw [if_pos (Kle_T z_60 (by decide) (by decide))]
    exact Or.inl ⟨_, rfl, 60, rfl, by decide, hR, hno, Or.inr rfl⟩
theorem op_bare (n : Nat) (hn : 200 ≤ n) {p0_paths : Nat → Int32} {p0_water : Int64} {p0_wall : Int64} {p0_kind : Nat → Int32} {p0_place : Nat → Int32} {p0_facing : Nat → Int32} {p0_age : Nat → Int32} {p0_seeds : Int32} {p0_season : Int32} {p0_z : Int32} {p0_spots : Nat → Int32} {p1_paths : Nat → Int32} {p1_water : Int64} {p1_wall : Int64} {p1_kind : Nat → Int32} {p1_place : Nat → Int32} {p1_facing : Nat → Int32} {p1_age : Nat → Int32} {p1_seeds : Int32} {p1_season : Int32} {p1_z : Int32} {p1_spots : Nat → Int32} {r aside told found lives treads : Nat → Int32} {b : Nat} (hK : XK p0_paths p0_water p0_wall p0_kind p0_place p0_facing p0_age p0_seeds p0_season p0_z p0_spots r b) (hb : b < 90000) (hT : XT told found) (hl : LV lives) (ht : TR treads) :
    ∃ x y, fX6_bare n p0_paths p0_water p0_wall p0_kind p0_place p0_facing p0_age p0_seeds p0_season p0_z p0_spots p1_paths p1_water p1_wall p1_kind p1_place p1_facing p1_age p1_seeds p1_season p1_z p1_spots told = some x ∧ fX7_bare n r aside found lives treads = some y ∧ x.1 = y.1 ∧ XK p0_paths p0_water p0_wall p0_kind p0_place p0_facing p0_age p0_seeds p0_season p0_z p0_spots y.2.1 b ∧ XT x.2.2.2.2.2.2.2.2.2.2.2.2 y.2.2.2 := by
  obtain ⟨t3, f3, i1, i2, i3⟩ := fnd n hT 3 (by decide) z_3 (L := -1000004) (by decide)
  have hK' := hK
  obtain ⟨q, e, kk, hr, hv, hs⟩ := hK'
  obtain ⟨v, v1, v2⟩ := CP_copyFrom n hn kk (p1_paths := p1_paths) (p1_water := p1_water) (p1_wall := p1_wall) (p1_kind := p1_kind) (p1_place := p1_place) (p1_facing := p1_facing) (p1_age := p1_age) (p1_seeds := p1_seeds) (p1_season := p1_season) (p1_z := p1_z) (p1_spots := p1_spots)
  obtain ⟨a, a1, a2⟩ := e7_copyRow n hn aside r
  obtain ⟨u6, l6, d6⟩ := e6_bareL n hn (told := told) v2 hv hb
  obtain ⟨u7, l7, k, d1, d2, d3, d4, d5⟩ := e7_bareL n hn hr hl ht hv hb
  have w1 := e7_pathsNow n (by omega) d3 (its_k hv k).1
  have hle := ct_le (hp (its k q)) 36
  obtain ⟨c, e1, e2⟩ := e7_copyRow n hn u7.2 a
  have hX : XK p0_paths p0_water p0_wall p0_kind p0_place p0_facing p0_age p0_seeds p0_season p0_z p0_spots c b := ⟨q, e, kk, hr.eqv fun i hi => (e2 i hi).trans (a2 i hi), hv, hs⟩
  have h0 : (0 ≤ (-1 : Int32)) = False := eq_false (by decide)
  rcases d6 with ⟨k6, rest, rfl, j1, j2, j3, j4, j5⟩ | ⟨l, rfl, j1⟩
  · have hkk : k = k6 := by
      rcases Nat.lt_trichotomy k k6 with h | h | h
      · rcases d5 with h5 | h5
        · exact absurd h5 (j4 k h)
        · omega
      · exact h
      · exact absurd j3 (d4 k6 h)
    subst hkk
    have hk0 : (0 ≤ nI k) = True := eq_true (nI_pos' (by omega))
    rw [j3] at w1
    simp only [fX6_bare, fX7_bare, v1, l6, a1, l7, w1, fX7_putBack, e1, fX7_orNone, d1, hk0, Sum.elim_inr, Option.bind_some, Option.elim_some, Option.elim_none, t10, t00, if_true, if_false]
    exact ⟨_, _, rfl, rfl, j1, hX, by rw [j5]; exact hT⟩
  · have hnj : ¬ ct (hp (its k q)) 36 = 0 := j1 k (by omega)
    have hn0 : (nI (ct (hp (its k q)) 36) = 0) = False := eq_false (nIneK z_0 hnj (by omega) (by decide))
    simp only [fX6_bare, fX7_bare, v1, l6, a1, l7, w1, hn0, fX7_putBack, e1, fX7_orNone, h0, i1, i2, Sum.elim_inl, Option.bind_some, Option.elim_some, Option.elim_none, t10, t00, if_true, if_false]
    exact ⟨_, _, rfl, rfl, rfl, hX, i3⟩
