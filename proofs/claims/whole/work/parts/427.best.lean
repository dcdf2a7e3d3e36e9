/-! the most path, the least
-/
def bs0 (f : Nat → Nat) : Nat → Nat × Nat
  | 0 => (0, 0)
  | k + 1 => if (bs0 f k).2 ≤ f k then (k, f k + 1) else bs0 f k
theorem bs0_le {f : Nat → Nat} {B : Nat} (h : ∀ k, f k ≤ B) : ∀ k, (bs0 f k).2 ≤ B + 1 := by
  intro k
  induction k with
  | zero => exact Nat.zero_le _
  | succ k ih =>
    rw [bs0]
    split
    · have := h k; dsimp only; omega
    · exact ih
def cfw (q : Nat → Nat) (p N k : Nat) : Nat := ct (hp (its N (upq q p k))) 36
theorem e6_mostPath (n : Nat) (hn : 200 ≤ n) {p0_paths : Nat → Int32} {p0_water : Int64} {p0_wall : Int64} {p0_kind : Nat → Int32} {p0_place : Nat → Int32} {p0_facing : Nat → Int32} {p0_age : Nat → Int32} {p0_seeds : Int32} {p0_season : Int32} {p0_z : Int32} {p0_spots : Nat → Int32} {p1_paths : Nat → Int32} {p1_water : Int64} {p1_wall : Int64} {p1_kind : Nat → Int32} {p1_place : Nat → Int32} {p1_facing : Nat → Int32} {p1_age : Nat → Int32} {p1_seeds : Int32} {p1_season : Int32} {p1_z : Int32} {p1_spots : Nat → Int32} {q : Nat → Nat} {e : Nat → Int32} {b s f many N : Nat} (kk : CP p0_paths p0_water p0_wall p0_kind p0_place p0_facing p0_age p0_seeds p0_season p0_z p0_spots q e) (hv : IV b q) (hb : b < 90000) (hs : s < q 1) (ho : ∀ k, k < many → okv f k) (hm : many ≤ 7) (hf : f < 4) (hN : N ≤ 60) :
    ∃ x, fX6_mostPath n (nI s) (nI f) (nI many) (nI N) p0_paths p0_water p0_wall p0_kind p0_place p0_facing p0_age p0_seeds p0_season p0_z p0_spots p1_paths p1_water p1_wall p1_kind p1_place p1_facing p1_age p1_seeds p1_season p1_z p1_spots = some x ∧ x.1 = nI (bs0 (cfw q (85 + 4 * s + f) N) many).1 := by
  have hB : ∀ k, cfw q (85 + 4 * s + f) N k ≤ 36 := fun k => ct_le _ 36
  unfold fX6_mostPath
  refine lpx (fun k S => ∃ T : PK, S = (nI (bs0 (cfw q (85 + 4 * s + f) N) k).1, opI (bs0 (cfw q (85 + 4 * s + f) N) k).2, nI k, T)) many (fun v => v.1 = nI (bs0 (cfw q (85 + 4 * s + f) N) many).1) ⟨_, rfl⟩ (fun k S hk hI => ?_) (fun S hI => ?_) (by omega) (fun v hX => ⟨_, rfl, hX⟩)
  · obtain ⟨T, rfl⟩ := hI
    have h2 := bs0_le hB k
    have h3 := hB k
    have h8 := hv.1
    obtain ⟨x, x1, x2⟩ := CP_copyWith n hn kk h8 hs hf (v := k) (p1_paths := T.1) (p1_water := T.2.1) (p1_wall := T.2.2.1) (p1_kind := T.2.2.2.1) (p1_place := T.2.2.2.2.1) (p1_facing := T.2.2.2.2.2.1) (p1_age := T.2.2.2.2.2.2.1) (p1_seeds := T.2.2.2.2.2.2.2.1) (p1_season := T.2.2.2.2.2.2.2.2.1) (p1_z := T.2.2.2.2.2.2.2.2.2.1) (p1_spots := T.2.2.2.2.2.2.2.2.2.2)
    have hvk := IV_seed hv (show s < 8 by omega) (ho k hk)
    obtain ⟨w, w1, w2⟩ := CP_pass n (by omega) x2 hvk (by omega) hN
    have hpc : fX2_pathCells n w.1 = some (nI (cfw q (85 + 4 * s + f) N k)) := e2_pathCells n (by omega) w2.1 (its_k hvk N).1
    dsimp +instances only
    rw [if_neg (nI_ge hk (by omega)), x1, Option.bind_some, w1, Option.bind_some, hpc, Option.bind_some, z_1, nI_add]
    by_cases h : (bs0 (cfw q (85 + 4 * s + f) N) k).2 ≤ cfw q (85 + 4 * s + f) N k
    · have e1 : bs0 (cfw q (85 + 4 * s + f) N) (k + 1) = (k, cfw q (85 + 4 * s + f) N k + 1) := if_pos h
      rw [if_neg (by rw [le_opI (by omega) (by omega)]; exact Nat.not_lt_of_le h), e1]
      dsimp only
      rw [opI_s]
      exact ⟨_, rfl, _, rfl⟩
    · have e1 : bs0 (cfw q (85 + 4 * s + f) N) (k + 1) = bs0 (cfw q (85 + 4 * s + f) N) k := if_neg h
      rw [if_pos (by rw [le_opI (by omega) (by omega)]; exact Nat.lt_of_not_le h), e1]
      exact ⟨_, rfl, _, rfl⟩
  · obtain ⟨T, rfl⟩ := hI
    dsimp +instances only
    rw [if_pos (nI_le (Nat.le_refl _) (by omega))]
    exact ⟨_, rfl, rfl⟩
theorem upq_upq {q : Nat → Nat} {i x y : Nat} : upq (upq q i x) i y = upq q i y := funext fun j => by
  by_cases e : j = i
  · subst e; rw [upq_T rfl, upq_T rfl]
  · rw [upq_F (by omega), upq_F (by omega), upq_F (by omega)]
theorem e7_best (n : Nat) (hn : 200 ≤ n) {r aside lives treads : Nat → Int32} {q : Nat → Nat} {e : Nat → Int32} {b s f many N : Nat} (hr : RM r q e) (hl : LV lives) (ht : TR treads) (hv : IV b q) (hb : b < 90000) (hs : s < 8) (ho : ∀ k, k < many → okv f k) (hm : many ≤ 7) (hf : f < 4) (hN : N ≤ 60) :
    ∃ x, fX7_best n (nI (85 + 4 * s + f)) (nI many) (nI N) r aside lives treads = some x ∧ x.1 = nI (bs0 (cfw q (85 + 4 * s + f) N) many).1 ∧ RM x.2.1 q e := by
  have hB : ∀ k, cfw q (85 + 4 * s + f) N k ≤ 36 := fun k => ct_le _ 36
  have hvi : vi (nI (85 + 4 * s + f)) 117 := vi_N (by omega) (by decide)
  have hcl := nI_clamp (show 85 + 4 * s + f < 2 ^ 31 by omega)
  have hpe : 85 + 4 * s + f < 2 ∨ 13 ≤ 85 + 4 * s + f := by omega
  have hp1 := hr.at (85 + 4 * s + f) (by omega) hpe
  unfold fX7_best
  rw [if_pos hvi]
  refine lpx (fun k S => ∃ R A x, S = (nI (bs0 (cfw q (85 + 4 * s + f) N) k).1, opI (bs0 (cfw q (85 + 4 * s + f) N) k).2, nI k, R, A) ∧ RM R (upq q (85 + 4 * s + f) x) e) many (fun v => v.1 = nI (bs0 (cfw q (85 + 4 * s + f) N) many).1 ∧ ∃ x, RM v.2.2.2.1 (upq q (85 + 4 * s + f) x) e) ⟨_, _, q (85 + 4 * s + f), rfl, by rw [upq_self]; exact hr⟩ (fun k S hk hI => ?_) (fun S hI => ?_) (by omega) (fun v hX => ?_)
  · obtain ⟨R, A, x, rfl, hR⟩ := hI
    have h2 := bs0_le hB k
    have h3 := hB k
    have hvk := IV_seed hv hs (ho k hk)
    have hR2 := hR.up (85 + 4 * s + f) k hpe
    rw [upq_upq] at hR2
    obtain ⟨w, w1, w2', w3⟩ := e7_pathsBehind n hn hN (aside := A) hR2 hl ht hvk (by omega)
    have w2 : w.1 = nI (cfw q (85 + 4 * s + f) N k) := w2'
    dsimp +instances only
    rw [if_neg (nI_ge hk (by omega)), if_pos hvi, hcl, w1, Option.bind_some, w2, z_1, nI_add]
    by_cases h : (bs0 (cfw q (85 + 4 * s + f) N) k).2 ≤ cfw q (85 + 4 * s + f) N k
    · have e1 : bs0 (cfw q (85 + 4 * s + f) N) (k + 1) = (k, cfw q (85 + 4 * s + f) N k + 1) := if_pos h
      rw [if_neg (by rw [le_opI (by omega) (by omega)]; exact Nat.not_lt_of_le h), if_pos (by rw [opI_lt (by omega) (by omega)]; exact h), e1]
      dsimp only
      rw [opI_s]
      exact ⟨_, rfl, _, _, k, rfl, w3⟩
    · have e1 : bs0 (cfw q (85 + 4 * s + f) N) (k + 1) = bs0 (cfw q (85 + 4 * s + f) N) k := if_neg h
      rw [if_pos (by rw [le_opI (by omega) (by omega)]; exact Nat.lt_of_not_le h), if_neg (by rw [opI_lt (by omega) (by omega)]; exact h), e1]
      exact ⟨_, rfl, _, _, k, rfl, w3⟩
  · obtain ⟨R, A, x, rfl, hR⟩ := hI
    dsimp +instances only
    rw [if_pos (nI_le (Nat.le_refl _) (by omega))]
    exact ⟨_, rfl, rfl, x, hR⟩
  · obtain ⟨h1, x, hR⟩ := hX
    rw [if_pos hvi, hcl, hp1]
    refine ⟨_, rfl, h1, ?_⟩
    have := hR.up (85 + 4 * s + f) (q (85 + 4 * s + f)) hpe
    rw [upq_upq, upq_self] at this
    exact this
theorem okv_kind : ∀ k, k < 7 → okv 0 k := fun k hk => Or.inl ⟨rfl, hk⟩
theorem okv_face : ∀ k, k < 4 → okv 2 k := fun k hk => Or.inr (Or.inr (Or.inl ⟨rfl, hk⟩))
theorem op_kindFor (n : Nat) (hn : 200 ≤ n) {p0_paths : Nat → Int32} {p0_water : Int64} {p0_wall : Int64} {p0_kind : Nat → Int32} {p0_place : Nat → Int32} {p0_facing : Nat → Int32} {p0_age : Nat → Int32} {p0_seeds : Int32} {p0_season : Int32} {p0_z : Int32} {p0_spots : Nat → Int32} {p1_paths : Nat → Int32} {p1_water : Int64} {p1_wall : Int64} {p1_kind : Nat → Int32} {p1_place : Nat → Int32} {p1_facing : Nat → Int32} {p1_age : Nat → Int32} {p1_seeds : Int32} {p1_season : Int32} {p1_z : Int32} {p1_spots : Nat → Int32} {r aside told found lives treads : Nat → Int32} {b : Nat} (hK : XK p0_paths p0_water p0_wall p0_kind p0_place p0_facing p0_age p0_seeds p0_season p0_z p0_spots r b) (hb : b < 90000) (hT : XT told found) (hl : LV lives) (ht : TR treads) (a1 a2 : Int32) :
    ∃ x y, fX6_kindFor n a1 a2 p0_paths p0_water p0_wall p0_kind p0_place p0_facing p0_age p0_seeds p0_season p0_z p0_spots p1_paths p1_water p1_wall p1_kind p1_place p1_facing p1_age p1_seeds p1_season p1_z p1_spots told = some x ∧ fX7_kindFor n a1 a2 r aside found lives treads = some y ∧ x.1 = y.1 ∧ XK p0_paths p0_water p0_wall p0_kind p0_place p0_facing p0_age p0_seeds p0_season p0_z p0_spots y.2.1 b ∧ XT x.2.2.2.2.2.2.2.2.2.2.2.2 y.2.2.2 := by
  obtain ⟨t', f', g1, g2, g3⟩ := fnd n hT 0 (by decide) z_0 (L := -1000001) (by decide)
  have hK' := hK
  obtain ⟨q, e, kk, hr, hv, hs⟩ := hK'
  have h8 := hv.1
  rcases sd n (a := a1) hr hv.1 kk.2.2.2.2.2.2.2.1 with ⟨s, hs1, rfl, c6, c7⟩ | ⟨c6, c7⟩
  · rcases wi n (a := a2) 0 60 z_0 z_60 (by decide) (by decide) with ⟨N, -, hN, rfl, w6, w7⟩ | ⟨-, w6, w7⟩
    · obtain ⟨x, x1, x2⟩ := e6_mostPath n hn kk hv hb hs1 okv_kind (by decide) (by decide) hN (p1_paths := p1_paths) (p1_water := p1_water) (p1_wall := p1_wall) (p1_kind := p1_kind) (p1_place := p1_place) (p1_facing := p1_facing) (p1_age := p1_age) (p1_seeds := p1_seeds) (p1_season := p1_season) (p1_z := p1_z) (p1_spots := p1_spots)
      obtain ⟨y, y1, y2, y3⟩ := e7_best n hn (aside := aside) hr hl ht hv hb (show s < 8 by omega) okv_kind (by decide) (by decide) hN
      have hat : fX7_at n (nI s) (0 : Int32) = some (nI (85 + 4 * s + 0)) := e7_at n s 0
      rw [show nI 0 = (0 : Int32) from rfl, show nI 7 = (7 : Int32) from rfl] at x1
      rw [show nI 7 = (7 : Int32) from rfl] at y1
      simp only [fX6_kindFor, fX7_kindFor, c6, c7, w6, w7, x1, hat, y1, Option.bind_some, Option.elim_some, Option.elim_none, t10, t00, if_true, if_false]
      exact ⟨_, _, rfl, rfl, x2.trans y2.symm, ⟨q, e, kk, y3, hv, hs⟩, hT⟩
    · simp only [fX6_kindFor, fX7_kindFor, c6, c7, w6, w7, g1, g2, Option.bind_some, Option.elim_some, Option.elim_none, t10, t00, if_true, if_false]
      exact ⟨_, _, rfl, rfl, rfl, hK, g3⟩
  · simp only [fX6_kindFor, fX7_kindFor, c6, c7, g1, g2, Option.bind_some, Option.elim_some, Option.elim_none, t10, t00, if_true, if_false]
    exact ⟨_, _, rfl, rfl, rfl, hK, g3⟩
theorem op_headingFor (n : Nat) (hn : 200 ≤ n) {p0_paths : Nat → Int32} {p0_water : Int64} {p0_wall : Int64} {p0_kind : Nat → Int32} {p0_place : Nat → Int32} {p0_facing : Nat → Int32} {p0_age : Nat → Int32} {p0_seeds : Int32} {p0_season : Int32} {p0_z : Int32} {p0_spots : Nat → Int32} {p1_paths : Nat → Int32} {p1_water : Int64} {p1_wall : Int64} {p1_kind : Nat → Int32} {p1_place : Nat → Int32} {p1_facing : Nat → Int32} {p1_age : Nat → Int32} {p1_seeds : Int32} {p1_season : Int32} {p1_z : Int32} {p1_spots : Nat → Int32} {r aside told found lives treads : Nat → Int32} {b : Nat} (hK : XK p0_paths p0_water p0_wall p0_kind p0_place p0_facing p0_age p0_seeds p0_season p0_z p0_spots r b) (hb : b < 90000) (hT : XT told found) (hl : LV lives) (ht : TR treads) (a1 a2 : Int32) :
    ∃ x y, fX6_headingFor n a1 a2 p0_paths p0_water p0_wall p0_kind p0_place p0_facing p0_age p0_seeds p0_season p0_z p0_spots p1_paths p1_water p1_wall p1_kind p1_place p1_facing p1_age p1_seeds p1_season p1_z p1_spots told = some x ∧ fX7_headingFor n a1 a2 r aside found lives treads = some y ∧ x.1 = y.1 ∧ XK p0_paths p0_water p0_wall p0_kind p0_place p0_facing p0_age p0_seeds p0_season p0_z p0_spots y.2.1 b ∧ XT x.2.2.2.2.2.2.2.2.2.2.2.2 y.2.2.2 := by
  obtain ⟨t', f', g1, g2, g3⟩ := fnd n hT 0 (by decide) z_0 (L := -1000001) (by decide)
  have hK' := hK
  obtain ⟨q, e, kk, hr, hv, hs⟩ := hK'
  have h8 := hv.1
  rcases sd n (a := a1) hr hv.1 kk.2.2.2.2.2.2.2.1 with ⟨s, hs1, rfl, c6, c7⟩ | ⟨c6, c7⟩
  · rcases wi n (a := a2) 0 60 z_0 z_60 (by decide) (by decide) with ⟨N, -, hN, rfl, w6, w7⟩ | ⟨-, w6, w7⟩
    · obtain ⟨x, x1, x2⟩ := e6_mostPath n hn kk hv hb hs1 okv_face (by decide) (by decide) hN (p1_paths := p1_paths) (p1_water := p1_water) (p1_wall := p1_wall) (p1_kind := p1_kind) (p1_place := p1_place) (p1_facing := p1_facing) (p1_age := p1_age) (p1_seeds := p1_seeds) (p1_season := p1_season) (p1_z := p1_z) (p1_spots := p1_spots)
      obtain ⟨y, y1, y2, y3⟩ := e7_best n hn (aside := aside) hr hl ht hv hb (show s < 8 by omega) okv_face (by decide) (by decide) hN
      have hat : fX7_at n (nI s) (2 : Int32) = some (nI (85 + 4 * s + 2)) := e7_at n s 2
      rw [show nI 2 = (2 : Int32) from rfl, show nI 4 = (4 : Int32) from rfl] at x1
      rw [show nI 4 = (4 : Int32) from rfl] at y1
      simp only [fX6_headingFor, fX7_headingFor, c6, c7, w6, w7, x1, hat, y1, Option.bind_some, Option.elim_some, Option.elim_none, t10, t00, if_true, if_false]
      exact ⟨_, _, rfl, rfl, x2.trans y2.symm, ⟨q, e, kk, y3, hv, hs⟩, hT⟩
    · simp only [fX6_headingFor, fX7_headingFor, c6, c7, w6, w7, g1, g2, Option.bind_some, Option.elim_some, Option.elim_none, t10, t00, if_true, if_false]
      exact ⟨_, _, rfl, rfl, rfl, hK, g3⟩
  · simp only [fX6_headingFor, fX7_headingFor, c6, c7, g1, g2, Option.bind_some, Option.elim_some, Option.elim_none, t10, t00, if_true, if_false]
    exact ⟨_, _, rfl, rfl, rfl, hK, g3⟩
/-! without which seed -/
def wst (f : Nat → Nat) : Nat → Nat × Nat
  | 0 => (36, 37)
  | k + 1 => if f k < (wst f k).2 then (k, f k) else wst f k
theorem wst_le {f : Nat → Nat} : ∀ k, (wst f k).2 ≤ 37 := by
  intro k
  induction k with
  | zero => exact Nat.le_refl _
  | succ k ih =>
    rw [wst]
    split
    · dsimp only; omega
    · exact ih
def wof (q : Nat → Nat) (N k : Nat) : Nat := cfw q (85 + 4 * k + 3) N 999
theorem e6_wthL (n : Nat) (hn : 200 ≤ n) {p0_paths : Nat → Int32} {p0_water : Int64} {p0_wall : Int64} {p0_kind : Nat → Int32} {p0_place : Nat → Int32} {p0_facing : Nat → Int32} {p0_age : Nat → Int32} {p0_seeds : Int32} {p0_season : Int32} {p0_z : Int32} {p0_spots : Nat → Int32} {p1_paths : Nat → Int32} {p1_water : Int64} {p1_wall : Int64} {p1_kind : Nat → Int32} {p1_place : Nat → Int32} {p1_facing : Nat → Int32} {p1_age : Nat → Int32} {p1_seeds : Int32} {p1_season : Int32} {p1_z : Int32} {p1_spots : Nat → Int32} {q : Nat → Nat} {e : Nat → Int32} {b N : Nat} (kk : CP p0_paths p0_water p0_wall p0_kind p0_place p0_facing p0_age p0_seeds p0_season p0_z p0_spots q e) (hv : IV b q) (hb : b < 90000) (hN : N ≤ 60) :
    ∃ v, lp (fun (s4 : Int32 × Int32 × Int32 × (Nat → Int32) × Int64 × Int64 × (Nat → Int32) × (Nat → Int32) × (Nat → Int32) × (Nat → Int32) × Int32 × Int32 × Int32 × (Nat → Int32)) => ((if p0_seeds ≤ s4.2.2.1 then some (.inr (s4.1, s4.2.1, s4.2.2.1, s4.2.2.2.1, s4.2.2.2.2.1, s4.2.2.2.2.2.1, s4.2.2.2.2.2.2.1, s4.2.2.2.2.2.2.2.1, s4.2.2.2.2.2.2.2.2.1, s4.2.2.2.2.2.2.2.2.2.1, s4.2.2.2.2.2.2.2.2.2.2.1, s4.2.2.2.2.2.2.2.2.2.2.2.1, s4.2.2.2.2.2.2.2.2.2.2.2.2.1, s4.2.2.2.2.2.2.2.2.2.2.2.2.2)) else ((fX2_copyWith n s4.2.2.1 (3 : Int32) (999 : Int32) s4.2.2.2.1 s4.2.2.2.2.1 s4.2.2.2.2.2.1 s4.2.2.2.2.2.2.1 s4.2.2.2.2.2.2.2.1 s4.2.2.2.2.2.2.2.2.1 s4.2.2.2.2.2.2.2.2.2.1 s4.2.2.2.2.2.2.2.2.2.2.1 s4.2.2.2.2.2.2.2.2.2.2.2.1 s4.2.2.2.2.2.2.2.2.2.2.2.2.1 s4.2.2.2.2.2.2.2.2.2.2.2.2.2 p0_paths p0_water p0_wall p0_kind p0_place p0_facing p0_age p0_seeds p0_season p0_z p0_spots).bind (fun q7 => ((fX2_pass n (nI N) q7.1 q7.2.1 q7.2.2.1 q7.2.2.2.1 q7.2.2.2.2.1 q7.2.2.2.2.2.1 q7.2.2.2.2.2.2.1 q7.2.2.2.2.2.2.2.1 q7.2.2.2.2.2.2.2.2.1).bind (fun q9 => ((fX2_pathCells n q9.1).bind (fun q11 => (if s4.2.1 ≤ q11 then some (.inl (s4.1, s4.2.1, (s4.2.2.1 + (1 : Int32)), q9.1, q7.2.1, q7.2.2.1, q7.2.2.2.1, q9.2.1, q9.2.2.1, q9.2.2.2.1, q7.2.2.2.2.2.2.2.1, q9.2.2.2.2, q7.2.2.2.2.2.2.2.2.2.1, q7.2.2.2.2.2.2.2.2.2.2)) else some (.inl (s4.2.2.1, q11, (s4.2.2.1 + (1 : Int32)), q9.1, q7.2.1, q7.2.2.1, q7.2.2.2.1, q9.2.1, q9.2.2.1, q9.2.2.2.1, q7.2.2.2.2.2.2.2.1, q9.2.2.2.2, q7.2.2.2.2.2.2.2.2.2.1, q7.2.2.2.2.2.2.2.2.2.2)))))))))) : Option ((Int32 × Int32 × Int32 × (Nat → Int32) × Int64 × Int64 × (Nat → Int32) × (Nat → Int32) × (Nat → Int32) × (Nat → Int32) × Int32 × Int32 × Int32 × (Nat → Int32)) ⊕ (Int32 × Int32 × Int32 × (Nat → Int32) × Int64 × Int64 × (Nat → Int32) × (Nat → Int32) × (Nat → Int32) × (Nat → Int32) × Int32 × Int32 × Int32 × (Nat → Int32))))) n ((-1 : Int32), (37 : Int32), (0 : Int32), p1_paths, p1_water, p1_wall, p1_kind, p1_place, p1_facing, p1_age, p1_seeds, p1_season, p1_z, p1_spots) = some v ∧ v.1 = nbI (wst (wof q N) (q 1)).1 := by
  have h8 := hv.1
  have k8 : p0_seeds = nI (q 1) := kk.2.2.2.2.2.2.2.1
  subst k8
  refine lp_ex (fun k S => ∃ T : PK, S = (nbI (wst (wof q N) k).1, nI (wst (wof q N) k).2, nI k, T)) (q 1) (fun (v : Int32 × Int32 × Int32 × PK) => v.1 = nbI (wst (wof q N) (q 1)).1) ⟨_, rfl⟩ (fun k S hk hI => ?_) (fun S hI => ?_) (by omega)
  · obtain ⟨T, rfl⟩ := hI
    have h2 := wst_le (f := wof q N) k
    obtain ⟨x, x1, x2⟩ := CP_copyWith n hn kk h8 hk (f := 3) (by decide) (v := 999) (p1_paths := T.1) (p1_water := T.2.1) (p1_wall := T.2.2.1) (p1_kind := T.2.2.2.1) (p1_place := T.2.2.2.2.1) (p1_facing := T.2.2.2.2.2.1) (p1_age := T.2.2.2.2.2.2.1) (p1_seeds := T.2.2.2.2.2.2.2.1) (p1_season := T.2.2.2.2.2.2.2.2.1) (p1_z := T.2.2.2.2.2.2.2.2.2.1) (p1_spots := T.2.2.2.2.2.2.2.2.2.2)
    have hvk := IV_seed hv (show k < 8 by omega) (f := 3) (v := 999) (Or.inr (Or.inr (Or.inr ⟨rfl, Nat.le_refl _⟩)))
    obtain ⟨w, w1, w2⟩ := CP_pass n (by omega) x2 hvk (by omega) hN
    have hc : wof q N k ≤ 36 := ct_le _ 36
    have hpc : fX2_pathCells n w.1 = some (nI (wof q N k)) := e2_pathCells n (by omega) w2.1 (its_k hvk N).1
    rw [show nI 3 = (3 : Int32) from rfl, show nI 999 = (999 : Int32) from rfl] at x1
    dsimp +instances only
    rw [if_neg (nI_ge hk (by omega)), x1, Option.bind_some, w1, Option.bind_some, hpc, Option.bind_some, z_1, nI_add]
    by_cases h : wof q N k < (wst (wof q N) k).2
    · have e1 : wst (wof q N) (k + 1) = (k, wof q N k) := if_pos h
      rw [if_neg (nI_ge h (by omega)), e1]
      dsimp only
      rw [nbI_T (show k < 36 by omega)]
      exact ⟨_, rfl, _, rfl⟩
    · have e1 : wst (wof q N) (k + 1) = wst (wof q N) k := if_neg h
      rw [if_pos (nI_le (Nat.le_of_not_lt h) (by omega)), e1]
      exact ⟨_, rfl, _, rfl⟩
  · obtain ⟨T, rfl⟩ := hI
    dsimp +instances only
    rw [if_pos (nI_le (Nat.le_refl _) (by omega))]
    exact ⟨_, rfl, rfl⟩
theorem e7_wthL (n : Nat) (hn : 200 ≤ n) {r aside lives treads : Nat → Int32} {q : Nat → Nat} {e : Nat → Int32} {b N : Nat} (hr : RM r q e) (hl : LV lives) (ht : TR treads) (hv : IV b q) (hb : b < 90000) (hN : N ≤ 60) :
    ∃ v, lp (fun (s4 : Int32 × Int32 × Int32 × (Nat → Int32) × (Nat → Int32)) => ((if (s4.2.2.2.1 (1 : Int32).toNatClampNeg) ≤ s4.2.2.1 then some (.inr (s4.1, s4.2.1, s4.2.2.1, s4.2.2.2.1, s4.2.2.2.2)) else ((fX7_at n s4.2.2.1 (3 : Int32)).bind (fun q7 => ((fX7_become n q7 (999 : Int32) s4.2.2.2.1).bind (fun q9 => ((fX7_pathsBehind n (nI N) q9.2 s4.2.2.2.2 lives treads).bind (fun q11 => ((fX7_at n s4.2.2.1 (3 : Int32)).bind (fun q13 => (if vi q13 117 then (if s4.2.1 ≤ q11.1 then some (.inl (s4.1, (if q11.1 < s4.2.1 then q11.1 else s4.2.1), (s4.2.2.1 + (1 : Int32)), (upd q11.2.1 q13.toNatClampNeg q9.1), q11.2.2)) else some (.inl (s4.2.2.1, (if q11.1 < s4.2.1 then q11.1 else s4.2.1), (s4.2.2.1 + (1 : Int32)), (upd q11.2.1 q13.toNatClampNeg q9.1), q11.2.2))) else none)))))))))) : Option ((Int32 × Int32 × Int32 × (Nat → Int32) × (Nat → Int32)) ⊕ (Int32 × Int32 × Int32 × (Nat → Int32) × (Nat → Int32))))) n ((-1 : Int32), (37 : Int32), (0 : Int32), r, aside) = some v ∧ v.1 = nbI (wst (wof q N) (q 1)).1 ∧ RM v.2.2.2.1 q e := by
  have h8 := hv.1
  refine lp_ex (fun k S => ∃ R A, S = (nbI (wst (wof q N) k).1, nI (wst (wof q N) k).2, nI k, R, A) ∧ RM R q e) (q 1) (fun (v : Int32 × Int32 × Int32 × (Nat → Int32) × (Nat → Int32)) => v.1 = nbI (wst (wof q N) (q 1)).1 ∧ RM v.2.2.2.1 q e) ⟨_, _, rfl, hr⟩ (fun k S hk hI => ?_) (fun S hI => ?_) (by omega)
  · obtain ⟨R, A, rfl, hR⟩ := hI
    have h2 := wst_le (f := wof q N) k
    have hvi : vi (nI (85 + 4 * k + 3)) 117 := vi_N (by omega) (by decide)
    have hcl := nI_clamp (show 85 + 4 * k + 3 < 2 ^ 31 by omega)
    have hat : fX7_at n (nI k) (3 : Int32) = some (nI (85 + 4 * k + 3)) := e7_at n k 3
    have hbe : fX7_become n (nI (85 + 4 * k + 3)) (999 : Int32) R = some (R (85 + 4 * k + 3), upd R (85 + 4 * k + 3) (999 : Int32)) := by unfold fX7_become; rw [if_pos hvi, if_pos hvi, hcl]
    have hvk := IV_seed hv (show k < 8 by omega) (f := 3) (v := 999) (Or.inr (Or.inr (Or.inr ⟨rfl, Nat.le_refl _⟩)))
    obtain ⟨w, w1, w2', w3⟩ := e7_pathsBehind n hn hN (r := upd R (85 + 4 * k + 3) (999 : Int32)) (aside := A) (hR.up (85 + 4 * k + 3) 999 (by omega)) hl ht hvk (by omega)
    have w2 : w.1 = nI (wof q N k) := w2'
    have hc : wof q N k ≤ 36 := ct_le _ 36
    have hR4 := w3.up (85 + 4 * k + 3) (q (85 + 4 * k + 3)) (by omega)
    rw [upq_upq, upq_self, ← hR.at (85 + 4 * k + 3) (by omega) (by omega)] at hR4
    dsimp +instances only
    rw [hR.seeds, if_neg (nI_ge hk (by omega)), hat, Option.bind_some, hbe, Option.bind_some, w1, Option.bind_some, Option.bind_some, if_pos hvi, hcl, w2, z_1, nI_add]
    by_cases h : wof q N k < (wst (wof q N) k).2
    · have e1 : wst (wof q N) (k + 1) = (k, wof q N k) := if_pos h
      rw [if_neg (nI_ge h (by omega)), if_pos (nI_lt h (by omega)), e1]
      dsimp only
      rw [nbI_T (show k < 36 by omega)]
      exact ⟨_, rfl, _, _, rfl, hR4⟩
    · have e1 : wst (wof q N) (k + 1) = wst (wof q N) k := if_neg h
      rw [if_pos (nI_le (Nat.le_of_not_lt h) (by omega)), if_neg (nI_nlt (Nat.le_of_not_lt h) (by omega)), e1]
      exact ⟨_, rfl, _, _, rfl, hR4⟩
  · obtain ⟨R, A, rfl, hR⟩ := hI
    dsimp +instances only
    rw [hR.seeds, if_pos (nI_le (Nat.le_refl _) (by omega))]
    exact ⟨_, rfl, rfl, hR⟩
theorem op_without (n : Nat) (hn : 200 ≤ n) {p0_paths : Nat → Int32} {p0_water : Int64} {p0_wall : Int64} {p0_kind : Nat → Int32} {p0_place : Nat → Int32} {p0_facing : Nat → Int32} {p0_age : Nat → Int32} {p0_seeds : Int32} {p0_season : Int32} {p0_z : Int32} {p0_spots : Nat → Int32} {p1_paths : Nat → Int32} {p1_water : Int64} {p1_wall : Int64} {p1_kind : Nat → Int32} {p1_place : Nat → Int32} {p1_facing : Nat → Int32} {p1_age : Nat → Int32} {p1_seeds : Int32} {p1_season : Int32} {p1_z : Int32} {p1_spots : Nat → Int32} {r aside told found lives treads : Nat → Int32} {b : Nat} (hK : XK p0_paths p0_water p0_wall p0_kind p0_place p0_facing p0_age p0_seeds p0_season p0_z p0_spots r b) (hb : b < 90000) (hT : XT told found) (hl : LV lives) (ht : TR treads) (a1 : Int32) :
    ∃ x y, fX6_without n a1 p0_paths p0_water p0_wall p0_kind p0_place p0_facing p0_age p0_seeds p0_season p0_z p0_spots p1_paths p1_water p1_wall p1_kind p1_place p1_facing p1_age p1_seeds p1_season p1_z p1_spots told = some x ∧ fX7_without n a1 r aside found lives treads = some y ∧ x.1 = y.1 ∧ XK p0_paths p0_water p0_wall p0_kind p0_place p0_facing p0_age p0_seeds p0_season p0_z p0_spots y.2.1 b ∧ XT x.2.2.2.2.2.2.2.2.2.2.2.2 y.2.2.2 := by
  obtain ⟨t', f', g1, g2, g3⟩ := fnd n hT 0 (by decide) z_0 (L := -1000001) (by decide)
  obtain ⟨t3, f3, i1, i2, i3⟩ := fnd n hT 3 (by decide) z_3 (L := -1000004) (by decide)
  have hK' := hK
  obtain ⟨q, e, kk, hr, hv, hs⟩ := hK'
  rcases wi n (a := a1) 0 60 z_0 z_60 (by decide) (by decide) with ⟨N, -, hN, rfl, w6, w7⟩ | ⟨-, w6, w7⟩
  · obtain ⟨x, x1, x2⟩ := e6_wthL n hn kk hv hb hN (p1_paths := p1_paths) (p1_water := p1_water) (p1_wall := p1_wall) (p1_kind := p1_kind) (p1_place := p1_place) (p1_facing := p1_facing) (p1_age := p1_age) (p1_seeds := p1_seeds) (p1_season := p1_season) (p1_z := p1_z) (p1_spots := p1_spots)
    obtain ⟨y, y1, y2, y3⟩ := e7_wthL n hn (aside := aside) hr hl ht hv hb hN
    have hX : XK p0_paths p0_water p0_wall p0_kind p0_place p0_facing p0_age p0_seeds p0_season p0_z p0_spots y.2.2.2.1 b := ⟨q, e, kk, y3, hv, hs⟩
    by_cases h : (wst (wof q N) (q 1)).1 < 36
    · have h0 : (0 ≤ nbI (wst (wof q N) (q 1)).1) = True := eq_true (by rw [nbI_pos]; exact h)
      simp only [fX6_without, fX7_without, w6, w7, x1, x2, y1, y2, fX7_orNone, h0, Option.bind_some, Option.elim_some, Option.elim_none, t10, t00, if_true, if_false]
      exact ⟨_, _, rfl, rfl, rfl, hX, hT⟩
    · have h0 : (0 ≤ nbI (wst (wof q N) (q 1)).1) = False := eq_false (by rw [nbI_pos]; exact h)
      simp only [fX6_without, fX7_without, w6, w7, x1, x2, y1, y2, fX7_orNone, h0, i1, i2, Option.bind_some, Option.elim_some, Option.elim_none, t10, t00, if_true, if_false]
      exact ⟨_, _, rfl, rfl, rfl, hX, i3⟩
  · simp only [fX6_without, fX7_without, w6, w7, g1, g2, Option.bind_some, Option.elim_some, Option.elim_none, t10, t00, if_true, if_false]
    exact ⟨_, _, rfl, rfl, rfl, hK, g3⟩
