/-! images, counts, odds, the tape's bytes -/
theorem op_image (n : Nat) (hn : 200 ≤ n) {p0_paths : Nat → Int32} {p0_water : Int64} {p0_wall : Int64} {p0_kind : Nat → Int32} {p0_place : Nat → Int32} {p0_facing : Nat → Int32} {p0_age : Nat → Int32} {p0_seeds : Int32} {p0_season : Int32} {p0_z : Int32} {p0_spots : Nat → Int32} {p2_paths : Nat → Int32} {p2_water : Int64} {p2_wall : Int64} {p2_kind : Nat → Int32} {p2_place : Nat → Int32} {p2_facing : Nat → Int32} {p2_age : Nat → Int32} {p2_seeds : Int32} {p2_season : Int32} {p2_z : Int32} {p2_spots : Nat → Int32} {r kept : Nat → Int32} {b : Nat} (k6 k7 : Int32) (hK : XK p0_paths p0_water p0_wall p0_kind p0_place p0_facing p0_age p0_seeds p0_season p0_z p0_spots r b) :
    ∃ x y, fX6_image n p0_paths p0_water p0_wall p0_kind p0_place p0_facing p0_age p0_seeds p0_season p0_z p0_spots p2_paths p2_water p2_wall p2_kind p2_place p2_facing p2_age p2_seeds p2_season p2_z p2_spots k6 = some x ∧ fX7_image n r kept k7 = some y ∧ x.1 = y.1 ∧ XK x.2.1 x.2.2.1 x.2.2.2.1 x.2.2.2.2.1 x.2.2.2.2.2.1 x.2.2.2.2.2.2.1 x.2.2.2.2.2.2.2.1 x.2.2.2.2.2.2.2.2.1 x.2.2.2.2.2.2.2.2.2.1 x.2.2.2.2.2.2.2.2.2.2.1 x.2.2.2.2.2.2.2.2.2.2.2.1 y.2.1 b ∧ x.2.2.2.2.2.2.2.2.2.2.2.2 = 1 ∧ y.2.2 = 1 := by
  obtain ⟨q, e, kk, hr, hv, hs⟩ := hK
  obtain ⟨v, v1, v2⟩ := CP_copyFrom n hn kk (p1_paths := p2_paths) (p1_water := p2_water) (p1_wall := p2_wall) (p1_kind := p2_kind) (p1_place := p2_place) (p1_facing := p2_facing) (p1_age := p2_age) (p1_seeds := p2_seeds) (p1_season := p2_season) (p1_z := p2_z) (p1_spots := p2_spots)
  obtain ⟨a, a1, a2⟩ := e7_copyRow n hn kept r
  simp only [fX6_image, fX7_image, v1, a1, Option.bind_some, Option.elim_some, Option.elim_none, t10, t00, if_true, if_false]
  exact ⟨_, _, rfl, rfl, rfl, ⟨q, e, v2, hr.eqv a2, hv, hs⟩, rfl, rfl⟩
theorem op_undo (n : Nat) (hn : 200 ≤ n) {p0_paths : Nat → Int32} {p0_water : Int64} {p0_wall : Int64} {p0_kind : Nat → Int32} {p0_place : Nat → Int32} {p0_facing : Nat → Int32} {p0_age : Nat → Int32} {p0_seeds : Int32} {p0_season : Int32} {p0_z : Int32} {p0_spots : Nat → Int32} {p2_paths : Nat → Int32} {p2_water : Int64} {p2_wall : Int64} {p2_kind : Nat → Int32} {p2_place : Nat → Int32} {p2_facing : Nat → Int32} {p2_age : Nat → Int32} {p2_seeds : Int32} {p2_season : Int32} {p2_z : Int32} {p2_spots : Nat → Int32} {r kept told found : Nat → Int32} {b : Nat} (k6 : Int32) (hK : XK p0_paths p0_water p0_wall p0_kind p0_place p0_facing p0_age p0_seeds p0_season p0_z p0_spots r b) (hI : k6 = 0 ∨ XK p2_paths p2_water p2_wall p2_kind p2_place p2_facing p2_age p2_seeds p2_season p2_z p2_spots kept b) (hT : XT told found) :
    ∃ x y, fX6_undo n p0_paths p0_water p0_wall p0_kind p0_place p0_facing p0_age p0_seeds p0_season p0_z p0_spots p2_paths p2_water p2_wall p2_kind p2_place p2_facing p2_age p2_seeds p2_season p2_z p2_spots k6 told = some x ∧ fX7_undo n r kept k6 found = some y ∧ x.1 = y.1 ∧ XK x.2.1 x.2.2.1 x.2.2.2.1 x.2.2.2.2.1 x.2.2.2.2.2.1 x.2.2.2.2.2.2.1 x.2.2.2.2.2.2.2.1 x.2.2.2.2.2.2.2.2.1 x.2.2.2.2.2.2.2.2.2.1 x.2.2.2.2.2.2.2.2.2.2.1 x.2.2.2.2.2.2.2.2.2.2.2.1 y.2.1 b ∧ XT x.2.2.2.2.2.2.2.2.2.2.2.2 y.2.2 := by
  obtain ⟨t3, f3, i1, i2, i3⟩ := fnd n hT 3 (by decide) z_3 (L := -1000004) (by decide)
  by_cases h0 : k6 = 0
  · simp only [fX6_undo, fX7_undo, if_pos h0, i1, i2, Option.bind_some, Option.elim_some, Option.elim_none, t10, t00, if_true, if_false]
    exact ⟨_, _, rfl, rfl, rfl, hK, i3⟩
  · obtain ⟨q, e, kk, hr, hv, hs⟩ := hI.resolve_left h0
    obtain ⟨v, v1, v2⟩ := CP_copyFrom n hn kk (p1_paths := p0_paths) (p1_water := p0_water) (p1_wall := p0_wall) (p1_kind := p0_kind) (p1_place := p0_place) (p1_facing := p0_facing) (p1_age := p0_age) (p1_seeds := p0_seeds) (p1_season := p0_season) (p1_z := p0_z) (p1_spots := p0_spots)
    obtain ⟨a, a1, a2⟩ := e7_copyRow n hn r kept
    have h9 : v.2.2.2.2.2.2.2.2.1 = nI (q 0) := v2.2.2.2.2.2.2.2.2.1
    have hra : RM a q e := hr.eqv a2
    have ha : a (0 : Int32).toNatClampNeg = nI (q 0) := hra.at 0 (by decide) (by decide)
    simp only [fX6_undo, fX7_undo, if_neg h0, v1, a1, Option.bind_some, Option.elim_some, Option.elim_none, t10, t00, if_true, if_false]
    exact ⟨_, _, rfl, rfl, h9.trans ha.symm, ⟨q, e, v2, hra, hv, hs⟩, hT⟩
theorem e2_spots (n : Nat) (hn : 100 ≤ n) {spots r : Nat → Int32} {q : Nat → Nat} {e : Nat → Int32} (hsp : ∀ i, i < 10 → spots i = e (3 + i)) (hs : SPT e (q 1)) : fX2_spotsHeld n spots = some (nI (ct (fun i => decide (e (3 + i) ≠ m1)) 10)) := by
  unfold fX2_spotsHeld
  refine lpb (fun k => (nI (ct (fun i => decide (e (3 + i) ≠ m1)) k), nI k)) 10 (nI (ct (fun i => decide (e (3 + i) ≠ m1)) 10), nI 10) rfl (fun k hk => ?_) rfl (by omega) rfl
  dsimp +instances only
  rw [if_neg (Kle_F z_10 hk (by decide)), if_pos (vi_N hk (by decide)), nI_clamp (by omega), hsp k hk, nI_1, nI_1, z_m1]
  by_cases h : e (3 + k) = m1
  · rw [if_pos h, ct_F (p := fun i => decide (e (3 + i) ≠ m1)) (by simp [h])]
  · rw [if_neg h, ct_T (p := fun i => decide (e (3 + i) ≠ m1)) (by simp [h])]
theorem e7_spots (n : Nat) (hn : 100 ≤ n) {r : Nat → Int32} {q : Nat → Nat} {e : Nat → Int32} (hr : RM r q e) (h8 : q 1 ≤ 8) (hs : SPT e (q 1)) : ∃ v, lp (fun (s17 : Int32 × Int32) => ((if (10 : Int32) ≤ s17.2 then some (.inr (s17.1, s17.2)) else (if vi ((3 : Int32) + s17.2) 117 then (if 0 ≤ (r ((3 : Int32) + s17.2).toNatClampNeg) then some (.inl ((s17.1 + (1 : Int32)), (s17.2 + (1 : Int32)))) else some (.inl ((s17.1 + (0 : Int32)), (s17.2 + (1 : Int32))))) else none)) : Option ((Int32 × Int32) ⊕ (Int32 × Int32)))) n ((0 : Int32), (0 : Int32)) = some v ∧ v.1 = nI (ct (fun i => decide (e (3 + i) ≠ m1)) 10) := by
  refine ⟨(nI (ct (fun i => decide (e (3 + i) ≠ m1)) 10), nI 10), lp_it (fun k => (nI (ct (fun i => decide (e (3 + i) ≠ m1)) k), nI k)) 10 rfl (fun k hk => ?_) rfl (by omega), rfl⟩
  have hrk := hr (3 + k) (by omega)
  rw [if_pos (by omega)] at hrk
  dsimp +instances only
  rw [if_neg (Kle_F z_10 hk (by decide)), z_3, nI_add, if_pos (vi_N (by omega) (by decide)), nI_clamp (by omega), hrk, nI_1, nI_1]
  rcases hs k hk with h | ⟨s, hs1, h⟩
  · rw [if_neg (by rw [h]; decide), ct_F (p := fun i => decide (e (3 + i) ≠ m1)) (by simp [h]), z_0, nI_add]; rfl
  · have hne : e (3 + k) ≠ m1 := by rw [h]; exact fun h1 => by rw [m1_ne s (by omega)] at h1; exact h1
    rw [if_pos (by rw [h]; exact nI_pos' (by omega)), ct_T (p := fun i => decide (e (3 + i) ≠ m1)) (by simp [hne])]
theorem op_count (n : Nat) (hn : 100 ≤ n) {p0_paths : Nat → Int32} {p0_water : Int64} {p0_wall : Int64} {p0_kind : Nat → Int32} {p0_place : Nat → Int32} {p0_facing : Nat → Int32} {p0_age : Nat → Int32} {p0_seeds : Int32} {p0_season : Int32} {p0_z : Int32} {p0_spots : Nat → Int32} {r told found lives : Nat → Int32} {b : Nat} (hK : XK p0_paths p0_water p0_wall p0_kind p0_place p0_facing p0_age p0_seeds p0_season p0_z p0_spots r b) (hT : XT told found) (hl : LV lives) {tl : Int32} (a1 : Int32) :
    ∃ x y, fX6_count n a1 p0_paths p0_kind p0_age p0_seeds p0_season p0_z p0_spots tl told = some x ∧ fX7_count n a1 r found lives tl = some y ∧ x.1 = y.1 ∧ XT x.2 y.2 := by
  obtain ⟨t', f', g1, g2, g3⟩ := fnd n hT 0 (by decide) z_0 (L := -1000001) (by decide)
  obtain ⟨q, e, ⟨k1, k2, k3, k4, k5, k6, k7, k8, k9, k10, k11⟩, hr, hv, hs⟩ := hK
  subst k8 k9 k10
  have h8 := hv.1
  have h0r : r (0 : Int32).toNatClampNeg = nI (q 0) := hr.at 0 (by decide) (by decide)
  have h2r : r (2 : Int32).toNatClampNeg = e 2 := by
    rw [show (2 : Int32).toNatClampNeg = 2 from by decide, hr 2 (by decide), if_pos (by decide)]
  obtain ⟨v, v1, v2⟩ := e7_spots n hn hr h8 hs
  unfold fX6_count fX7_count
  by_cases h0 : a1 = 0
  · simp only [if_pos h0]; exact ⟨_, _, rfl, rfl, h0r.symm, hT⟩
  · simp only [if_neg h0]
    by_cases h1 : a1 = 1
    · simp only [if_pos h1]; exact ⟨_, _, rfl, rfl, hr.seeds.symm, hT⟩
    · simp only [if_neg h1]
      by_cases h2 : a1 = 2
      · simp only [if_pos h2, e2_aliveSet n hn k4 k7 hv, e7_aliveNow n hn hr hl hv, Option.bind_some, e6_bcI n (aliv q) h8, e7_bits n hn (aliv q) h8]; exact ⟨_, _, rfl, rfl, rfl, hT⟩
      · simp only [if_neg h2]
        by_cases h3 : a1 = 3
        · simp only [if_pos h3, e2_pathCells n hn k1 hv, e7_pathsNow n hn hr hv, Option.bind_some]; exact ⟨_, _, rfl, rfl, rfl, hT⟩
        · simp only [if_neg h3]
          by_cases h4 : a1 = 4
          · simp only [if_pos h4, e2_pathSet n hn k1 hv, e0_benches n hn, bc_bn, e7_benches n hn hr hv, Option.bind_some]; exact ⟨_, _, rfl, rfl, rfl, hT⟩
          · simp only [if_neg h4]
            by_cases h5 : a1 = 5
            · simp only [if_pos h5]; exact ⟨_, _, rfl, rfl, rfl, hT⟩
            · simp only [if_neg h5]
              by_cases h6 : a1 = 6
              · simp only [if_pos h6]; exact ⟨_, _, rfl, rfl, h2r.symm, hT⟩
              · simp only [if_neg h6]
                by_cases h7 : a1 = 7
                · simp only [if_pos h7, e2_spots n hn (r := r) k11 hs, v1, Option.bind_some]; exact ⟨_, _, rfl, rfl, v2.symm, hT⟩
                · simp only [if_neg h7, g1, g2, Option.bind_some]; exact ⟨_, _, rfl, rfl, rfl, g3⟩
/-! odds -/
def pwL (x : Int32) : Nat → Int64
  | 0 => 1
  | k + 1 => pwL x k * x.toInt64
theorem t_gcd6 : ∀ f, f < 37 → fX6_commonDivisor 70 (nI f) 36 = some (nI (Nat.gcd f 36)) := by decide +kernel
theorem t_gcd7 : ∀ f, f < 37 → lp (fun (s11 : Int32 × Int32) => ((if s11.2 = 0 then some (.inr (s11.1, s11.2)) else (if ¬ s11.2 = 0 then some (.inl (s11.2, (s11.1 - s11.1 / s11.2 * s11.2))) else none)) : Option ((Int32 × Int32) ⊕ (Int32 × Int32)))) 70 ((36 : Int32), nI f) = some (nI (Nat.gcd f 36), (0 : Int32)) := by decide +kernel
theorem e6_gcd (n : Nat) (hn : 100 ≤ n) {f : Nat} (hf : f < 37) : fX6_commonDivisor n (nI f) 36 = some (nI (Nat.gcd f 36)) := by
  have h := t_gcd6 f hf
  unfold fX6_commonDivisor at h ⊢
  obtain ⟨v, h1, h2⟩ := bd_some h
  rw [lp_mono h1 (by omega)]; exact h2
theorem e6_power (n : Nat) (hn : 100 ≤ n) (x : Int32) {k : Nat} (hk : k ≤ 11) : fX6_power n x (nI k) = some (pwL x k) := by
  unfold fX6_power
  refine lpb (fun j => (pwL x j, nI j)) k (pwL x k, nI k) rfl (fun j hj => ?_) ?_ (by omega) rfl
  · dsimp +instances only
    rw [if_neg (nI_ge hj (by omega)), nI_1]; rfl
  · dsimp +instances only
    rw [if_pos (nI_le (Nat.le_refl _) (by omega))]
theorem op_odds (n : Nat) (hn : 100 ≤ n) {p0_paths : Nat → Int32} {p0_water : Int64} {p0_wall : Int64} {p0_kind : Nat → Int32} {p0_place : Nat → Int32} {p0_facing : Nat → Int32} {p0_age : Nat → Int32} {p0_seeds : Int32} {p0_season : Int32} {p0_z : Int32} {p0_spots : Nat → Int32} {r told found : Nat → Int32} {b : Nat} (hK : XK p0_paths p0_water p0_wall p0_kind p0_place p0_facing p0_age p0_seeds p0_season p0_z p0_spots r b) (hT : XT told found) (a1 a2 : Int32) :
    ∃ x y, fX6_odds n a1 a2 p0_paths told = some x ∧ fX7_odds n a1 a2 r found = some y ∧ x.1 = y.1 ∧ XT x.2 y.2 := by
  obtain ⟨t', f', g1, g2, g3⟩ := fnd n hT 0 (by decide) z_0 (L := -1000001) (by decide)
  obtain ⟨q, e, ⟨k1, k2, k3, k4, k5, k6, k7, k8, k9, k10, k11⟩, hr, hv, hs⟩ := hK
  rcases wi n (a := a1) 0 11 z_0 z_11 (by decide) (by decide) with ⟨N, -, hN, rfl, c6, c7⟩ | ⟨-, c6, c7⟩
  · rcases wi n (a := a2) 0 1 z_0 z_1 (by decide) (by decide) with ⟨w, -, hw, rfl, d6, d7⟩ | ⟨-, d6, d7⟩
    · have hc := ct_le (hp q) 36
      have hsub : (36 : Int32) - nI (ct (hp q) 36) = nI (36 - ct (hp q) 36) := by rw [z_36]; exact pk_sub hc
      generalize hfr : 36 - ct (hp q) 36 = f at hsub
      have hf : f < 37 := by omega
      have hg0 : 0 < Nat.gcd f 36 := Nat.gcd_pos_of_pos_right f (by decide)
      have hg36 : Nat.gcd f 36 ≤ 36 := Nat.le_of_dvd (by decide) (Nat.gcd_dvd_right f 36)
      have q1 := e6_gcd n hn hf
      have q2 := lp_mono (t_gcd7 f hf) (show 70 ≤ n by omega)
      generalize Nat.gcd f 36 = g at hg0 hg36 q1 q2
      have hgn : (nI g ≤ 0) = False := eq_false (leK_F z_0 hg0 (by omega))
      have hgz : (nI g = 0) = False := eq_false (nIneK z_0 (by omega) (by omega) (by decide))
      have e0 : (nI w = 0) = (w = 0) := nI_eqE (b := 0) (by omega) (by decide)
      have h7 : ∀ x : Int32, lp (fun (s15 : Int64 × Int32) => ((if nI N ≤ s15.2 then some (.inr (s15.1, s15.2)) else some (.inl ((s15.1 * x.toInt64), (s15.2 + (1 : Int32))))) : Option ((Int64 × Int32) ⊕ (Int64 × Int32)))) n ((1 : Int64), (0 : Int32)) = some (pwL x N, nI N) := by
        intro x
        refine lp_it (fun j => (pwL x j, nI j)) N rfl (fun j hj => ?_) ?_ (by omega)
        · dsimp +instances only
          rw [if_neg (nI_ge hj (by omega)), nI_1]; rfl
        · dsimp +instances only
          rw [if_pos (nI_le (Nat.le_refl _) (by omega))]
      by_cases hw0 : w = 0
      · have ew : (w = 0) = True := eq_true hw0
        simp only [fX6_odds, fX7_odds, c6, c7, d6, d7, e2_pathCells n hn k1 hv, e7_pathsNow n hn hr hv, hsub, q1, q2, hgn, hgz, e0, ew, not_false_eq_true, e6_power n hn _ hN, h7, Option.bind_some, Option.elim_some, Option.elim_none, t10, t00, if_true, if_false]
        exact ⟨_, _, rfl, rfl, rfl, hT⟩
      · have ew : (w = 0) = False := eq_false hw0
        simp only [fX6_odds, fX7_odds, c6, c7, d6, d7, e2_pathCells n hn k1 hv, e7_pathsNow n hn hr hv, hsub, q1, q2, hgn, hgz, e0, ew, not_false_eq_true, e6_power n hn _ hN, h7, Option.bind_some, Option.elim_some, Option.elim_none, t10, t00, if_true, if_false]
        exact ⟨_, _, rfl, rfl, rfl, hT⟩
    · simp only [fX6_odds, fX7_odds, c6, c7, d6, d7, g1, g2, Option.bind_some, Option.elim_some, Option.elim_none, t10, t00, if_true, if_false]
      exact ⟨_, _, rfl, rfl, rfl, g3⟩
  · simp only [fX6_odds, fX7_odds, c6, c7, g1, g2, Option.bind_some, Option.elim_some, Option.elim_none, t10, t00, if_true, if_false]
    exact ⟨_, _, rfl, rfl, rfl, g3⟩
/-! the tape -/
def XP (tb : Nat → Int32) (tl : Int32) (mt : Nat → Int32) (md : Int32) : Prop := ∃ L, L ≤ 120 ∧ tl = nI L ∧ md = nI L ∧ ∀ i, i < L → ∃ v, v < 256 ∧ tb i = nI v ∧ mt i = nI v
theorem shr_lo (x : BitVec 32) (k : Nat) (hk : k ≤ 24) : (x.sshiftRight k) &&& 255#32 = (x >>> k) &&& 255#32 := by
  have hc : ∀ i, i < 32 → 8 ≤ i → (255#32).getLsbD i = false := by decide
  refine BitVec.eq_of_getLsbD_eq fun i hi => ?_
  rw [BitVec.getLsbD_and, BitVec.getLsbD_and, BitVec.getLsbD_sshiftRight, BitVec.getLsbD_ushiftRight]
  by_cases h : i < 8
  · have h1 : k + i < 32 := by omega
    have h2 : ¬ 32 ≤ i := by omega
    simp [h1, h2]
  · rw [hc i hi (by omega), Bool.and_false, Bool.and_false]
theorem byte_eq (x : Int32) (i : Nat) (hi : i < 4) : (x >>> (((8 : Int32) * nI i) &&& 31)) &&& 255 = ((x.toUInt32 >>> (((8 : Int32) * nI i).toUInt32 &&& Int32.toUInt32 31)).toInt32) &&& 255 := by
  have h1 : ∀ i, i < 4 → (((((8 : Int32) * nI i) &&& 31).toBitVec.smod 32).toNat) = 8 * i := by decide +kernel
  have h2 : ∀ i, i < 4 → (((((8 : Int32) * nI i).toUInt32 &&& Int32.toUInt32 31).toBitVec % 32).toNat) = 8 * i := by decide +kernel
  refine Int32.toBitVec_inj.mp ?_
  rw [Int32.toBitVec_and, Int32.toBitVec_and, Int32.toBitVec_shiftRight, BitVec.sshiftRight_eq', h1 i hi]
  have h3 : ((x.toUInt32 >>> (((8 : Int32) * nI i).toUInt32 &&& Int32.toUInt32 31)).toInt32).toBitVec = x.toBitVec >>> (8 * i) := by
    show (x.toUInt32 >>> (((8 : Int32) * nI i).toUInt32 &&& Int32.toUInt32 31)).toBitVec = _
    rw [UInt32.toBitVec_shiftRight, BitVec.ushiftRight_eq', h2 i hi]; rfl
  rw [h3]
  exact shr_lo x.toBitVec (8 * i) (by omega)
theorem opI_dec (k : Nat) : opI (k + 1) + (-1 : Int32) = opI k := by
  rw [opI_s]
  cases k with
  | zero => decide
  | succ k => rw [opI_s]; exact pk_m1 k
theorem lpp {σ τ ρ π : Type} {b : σ → Option (σ ⊕ ρ)} {c : τ → Option (τ ⊕ π)} (I : σ → τ → Prop) (μ : σ → Nat) (X : ρ → π → Prop) (h : ∀ s t, I s t → (∃ v w, b s = some (.inr v) ∧ c t = some (.inr w) ∧ X v w) ∨ (∃ s' t', b s = some (.inl s') ∧ c t = some (.inl t') ∧ I s' t' ∧ μ s' < μ s)) : ∀ n s t, I s t → μ s < n → ∃ v w, lp b n s = some v ∧ lp c n t = some w ∧ X v w := by
  intro n
  induction n with
  | zero => intro s t _ h1; exact absurd h1 (Nat.not_lt_zero _)
  | succ n ih =>
    intro s t hI hm
    rcases h s t hI with ⟨v, w, h1, h2, h3⟩ | ⟨s', t', h1, h2, h3, h4⟩
    · exact ⟨v, w, by rw [lp, h1]; rfl, by rw [lp, h2]; rfl, h3⟩
    · obtain ⟨v, w, h5, h6, h7⟩ := ih s' t' h3 (by omega)
      exact ⟨v, w, by rw [lp, h1]; exact h5, by rw [lp, h2]; exact h6, h7⟩
theorem op_feed (n : Nat) (hn : 100 ≤ n) {told found tb mt : Nat → Int32} {tl md : Int32} (hT : XT told found) (hP : XP tb tl mt md) (a1 a2 : Int32) :
    ∃ x y, fX6_feed n a1 a2 tb tl told = some x ∧ fX7_feed n a1 a2 found mt md = some y ∧ x.1 = y.1 ∧ XP x.2.1 x.2.2.1 y.2.2.1 y.2.2.2 ∧ XT x.2.2.2 y.2.1 := by
  obtain ⟨t', f', g1, g2, g3⟩ := fnd n hT 0 (by decide) z_0 (L := -1000001) (by decide)
  obtain ⟨t1, f1, i1, i2, i3⟩ := fnd n hT 1 (by decide) z_1 (L := -1000002) (by decide)
  rcases wi n (a := a2) 1 4 z_1 z_4 (by decide) (by decide) with ⟨N, hN1, hN, rfl, c6, c7⟩ | ⟨-, c6, c7⟩
  · obtain ⟨L, hL, rfl, rfl, hby⟩ := hP
    by_cases hle : L + N ≤ 120
    · have hT1 : (nI L + nI N ≤ (120 : Int32)) = True := eq_true (by rw [nI_add]; exact leK_T z_120 hle (by decide))
      obtain ⟨v, w, h1, h2, h3, h4, h5⟩ := lpp (b := (fun (s5 : Int32 × (Nat → Int32) × Int32) => ((if s5.1 < 0 then some (.inr (s5.1, s5.2.1, s5.2.2)) else ((fX5_append n (((a1.toUInt32 >>> (((8 : Int32) * s5.1).toUInt32 &&& Int32.toUInt32 31)).toInt32) &&& (255 : Int32)) s5.2.1 s5.2.2).bind (fun q8 => some (.inl ((s5.1 + (-1 : Int32)), q8.1, q8.2))))) : Option ((Int32 × (Nat → Int32) × Int32) ⊕ (Int32 × (Nat → Int32) × Int32))))) (c := (fun (s5 : Int32 × (Nat → Int32) × Int32) => ((if s5.1 < 0 then some (.inr (s5.1, s5.2.1, s5.2.2)) else (if vi s5.2.2 120 then some (.inl ((s5.1 + (-1 : Int32)), (upd s5.2.1 s5.2.2.toNatClampNeg ((a1 >>> (((8 : Int32) * s5.1) &&& 31)) &&& (255 : Int32))), (s5.2.2 + (1 : Int32)))) else none)) : Option ((Int32 × (Nat → Int32) × Int32) ⊕ (Int32 × (Nat → Int32) × Int32))))) (fun s t => ∃ k B M, k ≤ N ∧ s = (opI k, B, nI (L + (N - k))) ∧ t = (opI k, M, nI (L + (N - k))) ∧ ∀ i, i < L + (N - k) → ∃ v, v < 256 ∧ B i = nI v ∧ M i = nI v) (fun s => s.1.toNatClampNeg + (if s.1 = m1 then 0 else 1)) (fun v w => v.2.2 = nI (L + N) ∧ w.2.2 = nI (L + N) ∧ ∀ i, i < L + N → ∃ u, u < 256 ∧ v.2.1 i = nI u ∧ w.2.1 i = nI u) (by
          rintro s t ⟨k, B, M, hk, rfl, rfl, hB⟩
          cases k with
          | zero =>
            exact Or.inl ⟨_, _, rfl, rfl, rfl, rfl, hB⟩
          | succ k =>
            have hd := opI_dec k
            rw [opI_s] at hd
            have hx : L + (N - (k + 1)) < 120 := by omega
            obtain ⟨u, hu, hu2⟩ := pk_andE ((a1.toUInt32 >>> (((8 : Int32) * nI k).toUInt32 &&& Int32.toUInt32 31)).toInt32) (m := 255) 8 (by decide)
            refine Or.inr ⟨(opI k, upd B (L + (N - (k + 1))) (nI u), nI (L + (N - k))), (opI k, upd M (L + (N - (k + 1))) (nI u), nI (L + (N - k))), ?_, ?_, ⟨k, _, _, by omega, rfl, rfl, fun i hi => ?_⟩, ?_⟩
            · rw [opI_s]
              dsimp +instances only
              unfold fX5_append
              rw [if_neg (nI_pos (by omega)), if_neg (nI_pos (by omega)), if_neg (Kle_F z_120 hx (by decide)), if_pos (vi_N hx (by decide)), nI_clamp (by omega), hu2, hd, nI_1, show L + (N - (k + 1)) + 1 = L + (N - k) from by omega]; rfl
            · rw [opI_s]
              dsimp +instances only
              rw [if_neg (nI_pos (by omega)), if_pos (vi_N hx (by decide)), nI_clamp (by omega), byte_eq a1 k (by omega), hu2, hd, nI_1, show L + (N - (k + 1)) + 1 = L + (N - k) from by omega]
            · by_cases ei : i = L + (N - (k + 1))
              · subst ei
                exact ⟨u, hu, upd_T rfl, upd_T rfl⟩
              · rw [upd_F (by omega), upd_F (by omega)]
                exact hB i (by omega)
            · dsimp only
              rw [opI_s, nI_clamp (by omega), if_neg (show ¬ nI k = m1 from by rw [m1_ne k (by omega)]; exact id)]
              cases k with
              | zero => rw [opI_0, if_pos rfl]; decide
              | succ k => rw [opI_s, nI_clamp (by omega)]; split <;> omega) n (nI N - (1 : Int32), tb, nI L) (nI N - (1 : Int32), mt, nI L) ⟨N, tb, mt, Nat.le_refl _, by rw [Nat.sub_self, z_1, pk_sub hN1, ← opI_s, Nat.sub_add_cancel hN1]; rfl, by rw [Nat.sub_self, z_1, pk_sub hN1, ← opI_s, Nat.sub_add_cancel hN1]; rfl, by rw [Nat.sub_self]; exact hby⟩ (by
            dsimp only
            rw [z_1, pk_sub hN1, nI_clamp (by omega)]; split <;> omega)
      simp only [fX6_feed, fX7_feed, c6, c7, hT1, h1, h2, Option.bind_some, Option.elim_some, Option.elim_none, t10, t00, if_true, if_false]
      exact ⟨_, _, rfl, rfl, h3.trans h4.symm, ⟨L + N, hle, h3, h4, h5⟩, hT⟩
    · have hT1 : (nI L + nI N ≤ (120 : Int32)) = False := eq_false (by rw [nI_add]; exact leK_F z_120 (by omega) (by omega))
      simp only [fX6_feed, fX7_feed, c6, c7, hT1, i1, i2, Option.bind_some, Option.elim_some, Option.elim_none, t10, t00, if_true, if_false]
      exact ⟨_, _, rfl, rfl, rfl, ⟨L, hL, rfl, rfl, hby⟩, i3⟩
  · simp only [fX6_feed, fX7_feed, c6, c7, g1, g2, Option.bind_some, Option.elim_some, Option.elim_none, t10, t00, if_true, if_false]
    exact ⟨_, _, rfl, rfl, rfl, hP, g3⟩
theorem XP_0 (tb mt : Nat → Int32) : XP tb 0 mt 0 := ⟨0, by decide, rfl, rfl, fun i hi => absurd hi (Nat.not_lt_zero _)⟩
theorem op_wipe (n : Nat) {tb mt : Nat → Int32} {tl md : Int32} (hP : XP tb tl mt md) : ∃ x y, fX6_wipe n tl = some x ∧ fX7_wipe n md = some y ∧ x.1 = y.1 ∧ XP tb x.2 mt y.2 := by
  obtain ⟨L, hL, h1, h2, hby⟩ := hP
  exact ⟨(tl, 0), (md, 0), rfl, rfl, h1.trans h2.symm, XP_0 tb mt⟩
