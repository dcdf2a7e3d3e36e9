/-! seeds told and changed, seasons, sets -/
theorem op_of (n : Nat) (hn : 100 ≤ n) {p0_paths : Nat → Int32} {p0_water : Int64} {p0_wall : Int64} {p0_kind : Nat → Int32} {p0_place : Nat → Int32} {p0_facing : Nat → Int32} {p0_age : Nat → Int32} {p0_seeds : Int32} {p0_season : Int32} {p0_z : Int32} {p0_spots : Nat → Int32} {r told found lives treads : Nat → Int32} {b : Nat} (hK : XK p0_paths p0_water p0_wall p0_kind p0_place p0_facing p0_age p0_seeds p0_season p0_z p0_spots r b) (hb : b < 99000) (hT : XT told found) (hl : LV lives) (ht : TR treads) (a1 a2 : Int32) :
    ∃ x y, fX6_of n a1 a2 p0_water p0_kind p0_place p0_facing p0_age p0_seeds p0_season told = some x ∧ fX7_of n a1 a2 r found lives treads = some y ∧ x.1 = y.1 ∧ XT x.2 y.2 := by
  obtain ⟨t', f', g1, g2, g3⟩ := fnd n hT 0 (by decide) z_0 (L := -1000001) (by decide)
  obtain ⟨q, e, ⟨k1, k2, k3, k4, k5, k6, k7, k8, k9, k10, k11⟩, hr, hv, hs⟩ := hK
  rcases sd n (a := a1) hr hv.1 k8 with ⟨s, hs1, rfl, c6, c7⟩ | ⟨c6, c7⟩
  · have h8 := hv.1
    have hs8 : s < 8 := by omega
    have hh := hv.2.2.2 s hs8
    have sI : ∀ f, f < 4 → fX7_seedIs n (nI s) (nI f) r = some (nI (q (85 + 4 * s + f))) := fun f hf => e7_seedIs n hr hs8 hf
    have s0 : fX7_seedIs n (nI s) (0 : Int32) r = some (nI (q (85 + 4 * s))) := sI 0 (by decide)
    rcases wi n (a := a2) 0 7 z_0 z_7 (by decide) (by decide) with ⟨v, -, hv2, rfl, w6, w7⟩ | ⟨hd, w6, w7⟩
    · have e0 : (nI v = 0) = (v = 0) := nI_eqE (b := 0) (by omega) (by decide)
      have e1 : (nI v = 1) = (v = 1) := nI_eqE (b := 1) (by omega) (by decide)
      have e2 : (nI v = 2) = (v = 2) := nI_eqE (b := 2) (by omega) (by decide)
      have e3 : (nI v = 3) = (v = 3) := nI_eqE (b := 3) (by omega) (by decide)
      have e4 : (nI v = 4) = (v = 4) := nI_eqE (b := 4) (by omega) (by decide)
      have e5 : (nI v = 5) = (v = 5) := nI_eqE (b := 5) (by omega) (by decide)
      have e6 : (nI v = 6) = (v = 6) := nI_eqE (b := 6) (by omega) (by decide)
      have e7 : (nI v = 7) = (v = 7) := nI_eqE (b := 7) (by omega) (by decide)
      have hcase : v = 0 ∨ v = 1 ∨ v = 2 ∨ v = 3 ∨ v = 4 ∨ v = 5 ∨ v = 6 ∨ v = 7 := by omega
      have kv : vi (nI (q (85 + 4 * s))) 7 := vi_N (by omega) (by decide)
      have kc := nI_clamp (show q (85 + 4 * s) < 2 ^ 31 by omega)
      have hlv := hl (q (85 + 4 * s)) (by omega)
      have htr := ht (q (85 + 4 * s)) (by omega)
      have t6 := e2_turnOf n (by omega) k2 k4 k5 k6 k7 hv (by omega) hs8
      have t7 := e7_turnOf n (by omega) hr hl hv (by omega) hs8
      have al6 := e3_isAlive n k4 k7 hv hs8
      have al7 := e7_isAlive n hr hl hv hs8
      subst k8 k9
      rcases hcase with rfl | rfl | rfl | rfl | rfl | rfl | rfl | rfl
      · have := sI 0 (by decide)
        have h0 := k4 s hs8
        simp +decide only [fX6_of, fX7_of, c6, c7, w7, e0, e1, e2, e3, e4, e5, e6, e7, this, Option.bind_some, Option.elim_some, Option.elim_none, t10, t00, if_true, if_false]
        exact ⟨_, _, rfl, rfl, h0, hT⟩
      · have := sI 1 (by decide)
        have h0 := k5 s hs8
        simp +decide only [fX6_of, fX7_of, c6, c7, w7, e0, e1, e2, e3, e4, e5, e6, e7, this, Option.bind_some, Option.elim_some, Option.elim_none, t10, t00, if_true, if_false]
        exact ⟨_, _, rfl, rfl, h0, hT⟩
      · have := sI 2 (by decide)
        have h0 := k6 s hs8
        simp +decide only [fX6_of, fX7_of, c6, c7, w7, e0, e1, e2, e3, e4, e5, e6, e7, this, Option.bind_some, Option.elim_some, Option.elim_none, t10, t00, if_true, if_false]
        exact ⟨_, _, rfl, rfl, h0, hT⟩
      · have := sI 3 (by decide)
        have h0 := k7 s hs8
        simp +decide only [fX6_of, fX7_of, c6, c7, w7, e0, e1, e2, e3, e4, e5, e6, e7, this, Option.bind_some, Option.elim_some, Option.elim_none, t10, t00, if_true, if_false]
        exact ⟨_, _, rfl, rfl, h0, hT⟩
      · simp +decide only [fX6_of, fX7_of, c6, c7, w7, e0, e1, e2, e3, e4, e5, e6, e7, s0, if_pos kv, kc, hlv, e3_lives n (k4.k0 hs8) (show q (85 + 4 * s) < 7 by omega), Option.bind_some, Option.elim_some, Option.elim_none, t10, t00, if_true, if_false]
        exact ⟨_, _, rfl, rfl, rfl, hT⟩
      · simp +decide only [fX6_of, fX7_of, c6, c7, w7, e0, e1, e2, e3, e4, e5, e6, e7, s0, if_pos kv, kc, htr, e3_treads n (k4.k0 hs8) (show q (85 + 4 * s) < 7 by omega), Option.bind_some, Option.elim_some, Option.elim_none, t10, t00, if_true, if_false]
        exact ⟨_, _, rfl, rfl, rfl, hT⟩
      · simp +decide only [fX6_of, fX7_of, c6, c7, w7, e0, e1, e2, e3, e4, e5, e6, e7, t6, t7, Option.bind_some, Option.elim_some, Option.elim_none, t10, t00, if_true, if_false]
        exact ⟨_, _, rfl, rfl, rfl, hT⟩
      · by_cases ha : aliv q s = true
        · rw [if_pos ha] at al6 al7
          simp +decide only [fX6_of, fX7_of, c6, c7, w7, e0, e1, e2, e3, e4, e5, e6, e7, al6, al7, Option.bind_some, Option.elim_some, Option.elim_none, t10, t00, if_true, if_false]
          exact ⟨_, _, rfl, rfl, rfl, hT⟩
        · rw [if_neg ha] at al6 al7
          simp +decide only [fX6_of, fX7_of, c6, c7, w7, e0, e1, e2, e3, e4, e5, e6, e7, al6, al7, Option.bind_some, Option.elim_some, Option.elim_none, t10, t00, if_true, if_false]
          exact ⟨_, _, rfl, rfl, rfl, hT⟩
    · simp only [fX6_of, fX7_of, c6, c7, w7, outK z_0 hd (by decide) (by decide) (by decide), outK z_1 hd (by decide) (by decide) (by decide), outK z_2 hd (by decide) (by decide) (by decide), outK z_3 hd (by decide) (by decide) (by decide), outK z_4 hd (by decide) (by decide) (by decide), outK z_5 hd (by decide) (by decide) (by decide), outK z_6 hd (by decide) (by decide) (by decide), outK z_7 hd (by decide) (by decide) (by decide), g1, g2, Option.bind_some, Option.elim_some, Option.elim_none, t10, t00, if_true, if_false]
      exact ⟨_, _, rfl, rfl, rfl, g3⟩
  · simp only [fX6_of, fX7_of, c6, c7, g1, g2, Option.bind_some, Option.elim_some, Option.elim_none, t10, t00, if_true, if_false]
    exact ⟨_, _, rfl, rfl, rfl, g3⟩
/-- one number of one seed becomes another -/
def okv (f v : Nat) : Prop := (f = 0 ∧ v < 7) ∨ (f = 1 ∧ v < 36) ∨ (f = 2 ∧ v < 4) ∨ (f = 3 ∧ v ≤ 999)
theorem IV_seed {b : Nat} {q : Nat → Nat} {s f v : Nat} (hv : IV b q) (hs : s < 8) (ho : okv f v) : IV b (upq q (85 + 4 * s + f) v) := by
  have hf : f < 4 := by unfold okv at ho; omega
  refine ⟨by rw [upq_F (by omega)]; exact hv.1, by rw [upq_F (by omega)]; exact hv.2.1, fun d hd => ?_, fun j hj => ?_⟩
  · rw [upq_F (j := 49 + d) (by omega), upq_F (j := 13 + d) (by omega)]; exact hv.2.2.1 d hd
  · have h := hv.2.2.2 j hj
    unfold okv at ho
    rcases ho with ⟨rfl, h1⟩ | ⟨rfl, h1⟩ | ⟨rfl, h1⟩ | ⟨rfl, h1⟩
    · rw [upq_F (j := 85 + 4 * j + 1) (by omega), upq_F (j := 85 + 4 * j + 2) (by omega), upq_F (j := 85 + 4 * j + 3) (by omega)]
      by_cases e : j = s
      · subst e; rw [upq_T (by omega)]; omega
      · rw [upq_F (by omega)]; exact h
    · rw [upq_F (j := 85 + 4 * j) (by omega), upq_F (j := 85 + 4 * j + 2) (by omega), upq_F (j := 85 + 4 * j + 3) (by omega)]
      by_cases e : j = s
      · subst e; rw [upq_T rfl]; omega
      · rw [upq_F (by omega)]; exact h
    · rw [upq_F (j := 85 + 4 * j) (by omega), upq_F (j := 85 + 4 * j + 1) (by omega), upq_F (j := 85 + 4 * j + 3) (by omega)]
      by_cases e : j = s
      · subst e; rw [upq_T rfl]; omega
      · rw [upq_F (by omega)]; exact h
    · rw [upq_F (j := 85 + 4 * j) (by omega), upq_F (j := 85 + 4 * j + 1) (by omega), upq_F (j := 85 + 4 * j + 2) (by omega)]
      by_cases e : j = s
      · subst e; rw [upq_T rfl]; omega
      · rw [upq_F (by omega)]; exact h
theorem CP_replace (n : Nat) {p0_paths : Nat → Int32} {p0_water : Int64} {p0_wall : Int64} {p0_kind : Nat → Int32} {p0_place : Nat → Int32} {p0_facing : Nat → Int32} {p0_age : Nat → Int32} {p0_seeds : Int32} {p0_season : Int32} {p0_z : Int32} {p0_spots : Nat → Int32} {q : Nat → Nat} {e : Nat → Int32} (kk : CP p0_paths p0_water p0_wall p0_kind p0_place p0_facing p0_age p0_seeds p0_season p0_z p0_spots q e) {s f v : Nat} (hs : s < 8) (hf : f < 4) :
    ∃ x, fX3_replace n s (nI f) (nI v) p0_kind p0_place p0_facing p0_age = some x ∧ x.1 = nI (q (85 + 4 * s + f)) ∧ CP p0_paths p0_water p0_wall x.2.1 x.2.2.1 x.2.2.2.1 x.2.2.2.2 p0_seeds p0_season p0_z p0_spots (upq q (85 + 4 * s + f) v) e := by
  obtain ⟨k1, k2, k3, k4, k5, k6, k7, k8, k9, k10, k11⟩ := kk
  have j1 := k1.skip (85 + 4 * s + f) v (by omega)
  have j2 := k2.skip (85 + 4 * s + f) v (by omega)
  have j3 := k3.skip (85 + 4 * s + f) v (by omega)
  have j8 : p0_seeds = nI (upq q (85 + 4 * s + f) v 1) := by rw [upq_F (by omega)]; exact k8
  have j9 : p0_season = nI (upq q (85 + 4 * s + f) v 0) := by rw [upq_F (by omega)]; exact k9
  have hcase : f = 0 ∨ f = 1 ∨ f = 2 ∨ f = 3 := by omega
  unfold fX3_replace
  rcases hcase with rfl | rfl | rfl | rfl
  · rw [if_pos (by rfl)]
    exact ⟨_, rfl, k4 s hs, j1, j2, j3, k4.up s v (by decide), k5.skip _ _ (by omega), k6.skip _ _ (by omega), k7.skip _ _ (by omega), j8, j9, k10, k11⟩
  · rw [if_neg (by decide), if_pos (by rfl)]
    exact ⟨_, rfl, k5 s hs, j1, j2, j3, k4.skip _ _ (by omega), k5.up s v (by decide), k6.skip _ _ (by omega), k7.skip _ _ (by omega), j8, j9, k10, k11⟩
  · rw [if_neg (by decide), if_neg (by decide), if_pos (by rfl)]
    exact ⟨_, rfl, k6 s hs, j1, j2, j3, k4.skip _ _ (by omega), k5.skip _ _ (by omega), k6.up s v (by decide), k7.skip _ _ (by omega), j8, j9, k10, k11⟩
  · rw [if_neg (by decide), if_neg (by decide), if_neg (by decide)]
    exact ⟨_, rfl, k7 s hs, j1, j2, j3, k4.skip _ _ (by omega), k5.skip _ _ (by omega), k6.skip _ _ (by omega), k7.up s v (by decide), j8, j9, k10, k11⟩
theorem mb (n : Nat) (a2 a3 : Int32) : (∃ f v, okv f v ∧ a2 = nI f ∧ a3 = nI v ∧ fX3_takes n a2 a3 = some (nI 1) ∧ fX7_mayBe n a2 a3 = some (nI 1)) ∨ (fX3_takes n a2 a3 = some (nI 0) ∧ fX7_mayBe n a2 a3 = some (nI 0)) := by
  unfold fX3_takes fX7_mayBe
  by_cases h0 : a2 = 0
  · simp only [if_pos h0]
    rcases kd n a3 with ⟨k, hk, rfl, c6, c7⟩ | ⟨-, c6, c7⟩
    · rw [c6, c7]; exact Or.inl ⟨0, k, Or.inl ⟨rfl, hk⟩, h0, rfl, rfl, rfl⟩
    · rw [c6, c7]; exact Or.inr ⟨rfl, rfl⟩
  · simp only [if_neg h0]
    by_cases h1 : a2 = 1
    · simp only [if_pos h1]
      rcases ce n a3 with ⟨k, hk, rfl, c6, c7⟩ | ⟨-, c6, c7⟩
      · rw [c6, c7]; exact Or.inl ⟨1, k, Or.inr (Or.inl ⟨rfl, hk⟩), h1, rfl, rfl, rfl⟩
      · rw [c6, c7]; exact Or.inr ⟨rfl, rfl⟩
    · simp only [if_neg h1]
      by_cases h2 : a2 = 2
      · simp only [if_pos h2]
        rcases hg n a3 with ⟨k, hk, rfl, c6, c7⟩ | ⟨-, c6, c7⟩
        · rw [c6, c7]; exact Or.inl ⟨2, k, Or.inr (Or.inr (Or.inl ⟨rfl, hk⟩)), h2, rfl, rfl, rfl⟩
        · rw [c6, c7]; exact Or.inr ⟨rfl, rfl⟩
      · simp only [if_neg h2]
        by_cases h3 : a2 = 3
        · simp only [if_pos h3]
          rcases wi n (a := a3) 0 999 z_0 z_999 (by decide) (by decide) with ⟨k, -, hk, rfl, c6, c7⟩ | ⟨-, c6, c7⟩
          · rw [c6, c7]; exact Or.inl ⟨3, k, Or.inr (Or.inr (Or.inr ⟨rfl, hk⟩)), h3, rfl, rfl, rfl⟩
          · rw [c6, c7]; exact Or.inr ⟨rfl, rfl⟩
        · simp only [if_neg h3]
          exact Or.inr ⟨rfl, rfl⟩
theorem op_change (n : Nat) {p0_paths : Nat → Int32} {p0_water : Int64} {p0_wall : Int64} {p0_kind : Nat → Int32} {p0_place : Nat → Int32} {p0_facing : Nat → Int32} {p0_age : Nat → Int32} {p0_seeds : Int32} {p0_season : Int32} {p0_z : Int32} {p0_spots : Nat → Int32} {r told found : Nat → Int32} {b : Nat} (hK : XK p0_paths p0_water p0_wall p0_kind p0_place p0_facing p0_age p0_seeds p0_season p0_z p0_spots r b) (hT : XT told found) (a1 a2 a3 : Int32) :
    ∃ x y, fX6_change n a1 a2 a3 p0_kind p0_place p0_facing p0_age p0_seeds told = some x ∧ fX7_change n a1 a2 a3 r found = some y ∧ x.1 = y.1 ∧ XK p0_paths p0_water p0_wall x.2.1 x.2.2.1 x.2.2.2.1 x.2.2.2.2.1 p0_seeds p0_season p0_z p0_spots y.2.1 b ∧ XT x.2.2.2.2.2 y.2.2 := by
  obtain ⟨t', f', g1, g2, g3⟩ := fnd n hT 0 (by decide) z_0 (L := -1000001) (by decide)
  have hK' := hK
  obtain ⟨q, e, kk, hr, hv, hs⟩ := hK'
  rcases sd n (a := a1) hr hv.1 kk.2.2.2.2.2.2.2.1 with ⟨s, hs1, rfl, c6, c7⟩ | ⟨c6, c7⟩
  · have h8 := hv.1
    rcases mb n a2 a3 with ⟨f, v, ho, rfl, rfl, d6, d7⟩ | ⟨d6, d7⟩
    · have hf : f < 4 := by unfold okv at ho; omega
      obtain ⟨x, x1, x2, x3⟩ := CP_replace n kk (show s < 8 by omega) hf (v := v)
      have v1 : vi (nI (85 + 4 * s + f)) 117 := vi_N (by omega) (by decide)
      simp only [fX6_change, fX7_change, fX7_become, c6, c7, d6, d7, x1, e7_at, if_pos v1, nI_clamp (show 85 + 4 * s + f < 2 ^ 31 by omega), Option.bind_some, Option.elim_some, Option.elim_none, t10, t00, if_true, if_false]
      exact ⟨_, _, rfl, rfl, by rw [x2, hr.at _ (by omega) (by omega)], ⟨_, e, x3, hr.up _ _ (by omega), IV_seed hv (by omega) ho, by rw [upq_F (by omega)]; exact hs⟩, hT⟩
    · simp only [fX6_change, fX7_change, c6, c7, d6, d7, g1, g2, Option.bind_some, Option.elim_some, Option.elim_none, t10, t00, if_true, if_false]
      exact ⟨_, _, rfl, rfl, rfl, hK, g3⟩
  · simp only [fX6_change, fX7_change, c6, c7, g1, g2, Option.bind_some, Option.elim_some, Option.elim_none, t10, t00, if_true, if_false]
    exact ⟨_, _, rfl, rfl, rfl, hK, g3⟩
theorem op_apart (n : Nat) {told found : Nat → Int32} (hT : XT told found) (a1 a2 : Int32) :
    ∃ x y, fX6_apart n a1 a2 told = some x ∧ fX7_apart n a1 a2 found = some y ∧ x.1 = y.1 ∧ XT x.2 y.2 := by
  obtain ⟨t', f', g1, g2, g3⟩ := fnd n hT 0 (by decide) z_0 (L := -1000001) (by decide)
  rcases ce n a1 with ⟨c, hc, rfl, c6, c7⟩ | ⟨-, c6, c7⟩
  · rcases ce n a2 with ⟨d, hd, rfl, d6, d7⟩ | ⟨-, d6, d7⟩
    · simp only [fX6_apart, fX7_apart, c6, c7, d6, d7, e_distance n hc hd, e_apartOf n hc hd, Option.bind_some, Option.elim_some, Option.elim_none, t10, t00, if_true, if_false]
      exact ⟨_, _, rfl, rfl, rfl, hT⟩
    · simp only [fX6_apart, fX7_apart, c6, c7, d6, d7, g1, g2, Option.bind_some, Option.elim_some, Option.elim_none, t10, t00, if_true, if_false]
      exact ⟨_, _, rfl, rfl, rfl, g3⟩
  · simp only [fX6_apart, fX7_apart, c6, c7, g1, g2, Option.bind_some, Option.elim_some, Option.elim_none, t10, t00, if_true, if_false]
    exact ⟨_, _, rfl, rfl, rfl, g3⟩
/-! seasons -/
theorem CP_pass (n : Nat) (hn : 100 ≤ n) {p0_paths : Nat → Int32} {p0_water : Int64} {p0_wall : Int64} {p0_kind : Nat → Int32} {p0_place : Nat → Int32} {p0_facing : Nat → Int32} {p0_age : Nat → Int32} {p0_seeds : Int32} {p0_season : Int32} {p0_z : Int32} {p0_spots : Nat → Int32} {q : Nat → Nat} {e : Nat → Int32} {b N : Nat} (kk : CP p0_paths p0_water p0_wall p0_kind p0_place p0_facing p0_age p0_seeds p0_season p0_z p0_spots q e) (hv : IV b q) (hb : b < 99000) (hN : N ≤ 60) :
    ∃ v, fX2_pass n (nI N) p0_paths p0_water p0_wall p0_kind p0_place p0_facing p0_age p0_seeds p0_season = some v ∧ CP v.1 p0_water p0_wall p0_kind v.2.1 v.2.2.1 v.2.2.2.1 p0_seeds v.2.2.2.2 p0_z p0_spots (its N q) e := by
  obtain ⟨k1, k2, k3, k4, k5, k6, k7, k8, k9, k10, k11⟩ := kk
  subst k8 k9
  obtain ⟨v, v1, v2, v3, v4, v5, v6⟩ := e2_pass n hn hN k1 k2 k3 k4 k5 k6 k7 hv hb
  obtain ⟨i1, i2, i3, i4, i5⟩ := its_k hv N
  exact ⟨v, v1, v2, k2.eq i4, k3.eq i4, k4.eq fun s _ => i5 s, v3, v4, v5, by rw [i2], v6, k10, k11⟩
theorem IV.mono {b c : Nat} {q : Nat → Nat} (h : IV b q) (hc : b ≤ c) : IV c q := ⟨h.1, by have := h.2.1; omega, h.2.2⟩
theorem XK.mono {p0_paths : Nat → Int32} {p0_water : Int64} {p0_wall : Int64} {p0_kind : Nat → Int32} {p0_place : Nat → Int32} {p0_facing : Nat → Int32} {p0_age : Nat → Int32} {p0_seeds : Int32} {p0_season : Int32} {p0_z : Int32} {p0_spots : Nat → Int32} {r : Nat → Int32} {b c : Nat} (h : XK p0_paths p0_water p0_wall p0_kind p0_place p0_facing p0_age p0_seeds p0_season p0_z p0_spots r b) (hc : b ≤ c) : XK p0_paths p0_water p0_wall p0_kind p0_place p0_facing p0_age p0_seeds p0_season p0_z p0_spots r c := by
  obtain ⟨q, e, k, hr, hv, hs⟩ := h
  exact ⟨q, e, k, hr, hv.mono hc, hs⟩
theorem op_go (n : Nat) (hn : 100 ≤ n) {p0_paths : Nat → Int32} {p0_water : Int64} {p0_wall : Int64} {p0_kind : Nat → Int32} {p0_place : Nat → Int32} {p0_facing : Nat → Int32} {p0_age : Nat → Int32} {p0_seeds : Int32} {p0_season : Int32} {p0_z : Int32} {p0_spots : Nat → Int32} {r told found lives treads : Nat → Int32} {b : Nat} (hK : XK p0_paths p0_water p0_wall p0_kind p0_place p0_facing p0_age p0_seeds p0_season p0_z p0_spots r b) (hb : b < 99000) (hT : XT told found) (hl : LV lives) (ht : TR treads) (a1 : Int32) :
    ∃ x y, fX6_go n a1 p0_paths p0_water p0_wall p0_kind p0_place p0_facing p0_age p0_seeds p0_season told = some x ∧ fX7_go n a1 r found lives treads = some y ∧ x.1 = y.1 ∧ XK x.2.1 p0_water p0_wall p0_kind x.2.2.1 x.2.2.2.1 x.2.2.2.2.1 p0_seeds x.2.2.2.2.2.1 p0_z p0_spots y.2.1 (b + 40) ∧ XT x.2.2.2.2.2.2 y.2.2 := by
  obtain ⟨t', f', g1, g2, g3⟩ := fnd n hT 0 (by decide) z_0 (L := -1000001) (by decide)
  rcases wi n (a := a1) 1 40 z_1 z_40 (by decide) (by decide) with ⟨N, -, hN, rfl, c6, c7⟩ | ⟨-, c6, c7⟩
  · obtain ⟨q, e, kk, hr, hv, hs⟩ := hK
    have h0 := hv.2.1
    have k9 : p0_season = nI (q 0) := kk.2.2.2.2.2.2.2.2.1
    subst k9
    have h0r : r (0 : Int32).toNatClampNeg = nI (q 0) := hr.at 0 (by decide) (by decide)
    have hle : (nI (q 0) + nI N ≤ (99999 : Int32)) = True := eq_true (by rw [nI_add]; exact leK_T z_99999 (by omega) (by decide))
    obtain ⟨v, v1, v2⟩ := CP_pass n hn kk hv hb (N := N) (by omega)
    obtain ⟨r', r1, r2⟩ := e7_seasons n hn (N := N) (by omega) hr hl ht hv hb
    have i1 := (its_k hv N).1
    have i2 := (its_k hv N).2.1
    have pc6 := e2_pathCells n hn v2.1 i1
    have pc7 := e7_pathsNow n hn r2 i1
    simp only [fX6_go, fX7_go, c6, c7, h0r, hle, v1, r1, pc6, pc7, Option.bind_some, Option.elim_some, Option.elim_none, t10, t00, if_true, if_false]
    exact ⟨_, _, rfl, rfl, rfl, ⟨_, e, v2, r2, i1.mono (by omega), by rw [i2]; exact hs⟩, hT⟩
  · simp only [fX6_go, fX7_go, c6, c7, g1, g2, Option.bind_some, Option.elim_some, Option.elim_none, t10, t00, if_true, if_false]
    exact ⟨_, _, rfl, rfl, rfl, hK.mono (by omega), g3⟩
theorem bc_bn (n : Nat) (p : Nat → Bool) : fJ13_bitCount_95d88 n (sb p 36) = some (nI (ct p 36)) := by rw [bc_count, ct_sb]
theorem op_now (n : Nat) (hn : 100 ≤ n) {p0_paths : Nat → Int32} {p0_water : Int64} {p0_wall : Int64} {p0_kind : Nat → Int32} {p0_place : Nat → Int32} {p0_facing : Nat → Int32} {p0_age : Nat → Int32} {p0_seeds : Int32} {p0_season : Int32} {p0_z : Int32} {p0_spots : Nat → Int32} {r told found lives : Nat → Int32} {b : Nat} (hK : XK p0_paths p0_water p0_wall p0_kind p0_place p0_facing p0_age p0_seeds p0_season p0_z p0_spots r b) (hT : XT told found) (hl : LV lives) (a1 : Int32) :
    ∃ x y, fX6_now n a1 p0_paths p0_kind p0_age p0_seeds p0_season told = some x ∧ fX7_now n a1 r found lives = some y ∧ x.1 = y.1 ∧ XT x.2 y.2 := by
  obtain ⟨t', f', g1, g2, g3⟩ := fnd n hT 0 (by decide) z_0 (L := -1000001) (by decide)
  obtain ⟨q, e, ⟨k1, k2, k3, k4, k5, k6, k7, k8, k9, k10, k11⟩, hr, hv, hs⟩ := hK
  subst k8 k9
  have h0r : r (0 : Int32).toNatClampNeg = nI (q 0) := hr.at 0 (by decide) (by decide)
  unfold fX6_now fX7_now
  by_cases h0 : a1 = 0
  · simp only [if_pos h0]; exact ⟨_, _, rfl, rfl, h0r.symm, hT⟩
  · simp only [if_neg h0]
    by_cases h1 : a1 = 1
    · simp only [if_pos h1, e2_pathCells n hn k1 hv, e7_pathsNow n hn hr hv, Option.bind_some]; exact ⟨_, _, rfl, rfl, rfl, hT⟩
    · simp only [if_neg h1]
      by_cases h2 : a1 = 2
      · simp only [if_pos h2, e2_aliveSet n hn k4 k7 hv, e7_aliveNow n hn hr hl hv, Option.bind_some]; exact ⟨_, _, rfl, rfl, rfl, hT⟩
      · simp only [if_neg h2]
        by_cases h3 : a1 = 3
        · simp only [if_pos h3, e2_pathOfAll n hn k1, e7_pathSum n hn hr, Option.bind_some]; exact ⟨_, _, rfl, rfl, rfl, hT⟩
        · simp only [if_neg h3]
          by_cases h4 : a1 = 4
          · simp only [if_pos h4, e2_pathSet n hn k1 hv, e0_benches n hn, bc_bn, e7_benches n hn hr hv, Option.bind_some]; exact ⟨_, _, rfl, rfl, rfl, hT⟩
          · simp only [if_neg h4, g1, g2, Option.bind_some]; exact ⟨_, _, rfl, rfl, rfl, g3⟩
theorem RS.sb {x : Int64} {q : Nat → Nat} {w : Nat} (h : RS x q w) : x = sb (fun c => decide (q (13 + c) = w)) 36 := sb_of (by decide) fun i _ => h i
def wh (q : Nat → Nat) (v c : Nat) : Bool := if v = 0 then hp q c else if v = 3 then bn (hp q) c else decide (q (13 + c) = v)
theorem op_where (n : Nat) (hn : 100 ≤ n) {p0_paths : Nat → Int32} {p0_water : Int64} {p0_wall : Int64} {p0_kind : Nat → Int32} {p0_place : Nat → Int32} {p0_facing : Nat → Int32} {p0_age : Nat → Int32} {p0_seeds : Int32} {p0_season : Int32} {p0_z : Int32} {p0_spots : Nat → Int32} {r told found : Nat → Int32} {b : Nat} (hK : XK p0_paths p0_water p0_wall p0_kind p0_place p0_facing p0_age p0_seeds p0_season p0_z p0_spots r b) (hT : XT told found) (a1 : Int32) :
    ∃ x y, fX6_where n a1 p0_paths p0_water p0_wall told = some x ∧ fX7_where n a1 r found = some y ∧ x.1 = y.1 ∧ XT x.2 y.2 := by
  obtain ⟨t', f', g1, g2, g3⟩ := fnd n hT 0 (by decide) z_0 (L := -1000001) (by decide)
  obtain ⟨q, e, ⟨k1, k2, k3, k4, k5, k6, k7, k8, k9, k10, k11⟩, hr, hv, hs⟩ := hK
  rcases wi n (a := a1) 0 3 z_0 z_3 (by decide) (by decide) with ⟨v, -, hv2, rfl, w6, w7⟩ | ⟨hd, w6, w7⟩
  · have h7 : fX7_where n (nI v) r found = some (sb (wh q v) 36, found) := by
      unfold fX7_where
      rw [w7]
      simp only [Option.bind_some, Option.elim_some, Option.elim_none, t10, t00, if_true, if_false]
      have e0 : (nI v = 0) = (v = 0) := nI_eqE (b := 0) (by omega) (by decide)
      have e3 : (nI v = 3) = (v = 3) := nI_eqE (b := 3) (by omega) (by decide)
      refine lpb (fun k => (sb (wh q v) k, nI k)) 36 (sb (wh q v) 36, nI 36) rfl (fun k hk => ?_) rfl (by omega) rfl
      have hg := (hv.2.2.1 k hk).2.1
      dsimp +instances only
      rw [if_neg (Kle_F z_36 hk (by decide)), e7_hasPath n hr hv hk, e7_isBench n hn hr hv hk]
      simp only [e0, e3, Option.bind_some, z_1, nI_add]
      by_cases h0 : v = 0
      · simp only [if_pos h0]
        by_cases h : hp q k = true
        · rw [if_neg (b01_T h), sb_T (p := wh q v) (by unfold wh; rw [if_pos h0]; exact h)]
        · rw [if_pos (b01_F h), sb_F (p := wh q v) (by unfold wh; rw [if_pos h0]; exact h), Int64.or_zero]
      · simp only [if_neg h0]
        by_cases h3 : v = 3
        · simp only [if_pos h3]
          by_cases h : bn (hp q) k = true
          · rw [if_neg (b01_T h), sb_T (p := wh q v) (by unfold wh; rw [if_neg h0, if_pos h3]; exact h)]
          · rw [if_pos (b01_F h), sb_F (p := wh q v) (by unfold wh; rw [if_neg h0, if_pos h3]; exact h), Int64.or_zero]
        · simp only [if_neg h3]
          rw [z_13, nI_add, if_pos (vi_N (by omega) (by decide)), nI_clamp (by omega), hr.at (13 + k) (by omega) (by omega)]
          by_cases h : q (13 + k) = v
          · rw [if_pos (by rw [h]), sb_T (p := wh q v) (by unfold wh; rw [if_neg h0, if_neg h3]; simp [h])]
          · rw [if_neg (nIneK rfl h (by omega) (by omega)), sb_F (p := wh q v) (by unfold wh; rw [if_neg h0, if_neg h3]; simp [h]), Int64.or_zero]
    rw [h7]
    unfold fX6_where
    have hcase : v = 0 ∨ v = 1 ∨ v = 2 ∨ v = 3 := by omega
    rcases hcase with rfl | rfl | rfl | rfl
    · rw [if_pos (by rfl), e2_pathSet n hn k1 hv]
      exact ⟨_, _, rfl, rfl, rfl, hT⟩
    · rw [if_neg (by decide), if_pos (by rfl)]
      exact ⟨_, _, rfl, rfl, k2.sb, hT⟩
    · rw [if_neg (by decide), if_neg (by decide), if_pos (by rfl)]
      exact ⟨_, _, rfl, rfl, k3.sb, hT⟩
    · rw [if_neg (by decide), if_neg (by decide), if_neg (by decide), if_pos (by rfl), e2_pathSet n hn k1 hv, Option.bind_some, e0_benches n hn]
      exact ⟨_, _, rfl, rfl, rfl, hT⟩
  · simp only [fX6_where, fX7_where, w7, outK z_0 hd (by decide) (by decide) (by decide), outK z_1 hd (by decide) (by decide) (by decide), outK z_2 hd (by decide) (by decide) (by decide), outK z_3 hd (by decide) (by decide) (by decide), g1, g2, Option.bind_some, Option.elim_some, Option.elim_none, t10, t00, if_true, if_false]
    exact ⟨_, _, rfl, rfl, rfl, g3⟩
