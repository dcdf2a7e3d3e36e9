/-! the acts, one by one: the park -/
theorem op_ground (n : Nat) {p0_paths : Nat → Int32} {p0_water : Int64} {p0_wall : Int64} {p0_kind : Nat → Int32} {p0_place : Nat → Int32} {p0_facing : Nat → Int32} {p0_age : Nat → Int32} {p0_seeds : Int32} {p0_season : Int32} {p0_z : Int32} {p0_spots : Nat → Int32} {r told found : Nat → Int32} {b : Nat} (hK : XK p0_paths p0_water p0_wall p0_kind p0_place p0_facing p0_age p0_seeds p0_season p0_z p0_spots r b) (hT : XT told found) (a1 a2 : Int32) :
    ∃ x y, fX6_ground n a1 a2 p0_paths p0_water p0_wall told = some x ∧ fX7_ground n a1 a2 r found = some y ∧ x.1 = y.1 ∧ XK x.2.1 x.2.2.1 x.2.2.2.1 p0_kind p0_place p0_facing p0_age p0_seeds p0_season p0_z p0_spots y.2.1 b ∧ XT x.2.2.2.2 y.2.2 := by
  obtain ⟨t', f', g1, g2, g3⟩ := fnd n hT 0 (by decide) z_0 (L := -1000001) (by decide)
  rcases ce n a1 with ⟨c, hc, rfl, c6, c7⟩ | ⟨-, c6, c7⟩
  · rcases wi n (a := a2) 0 2 z_0 z_2 (by decide) (by decide) with ⟨v, -, hv2, rfl, w6, w7⟩ | ⟨-, w6, w7⟩
    · obtain ⟨q, e, ⟨k1, k2, k3, k4, k5, k6, k7, k8, k9, k10, k11⟩, hr, hv, hs⟩ := hK
      obtain ⟨x, x1, x2, x3, x4⟩ := e2_becomeGround n k1 k2 k3 hv hc hv2
      obtain ⟨y, y1, y2, y3⟩ := e7_lay n hr hc hv2
      have hg := e2_groundOf n k2 k3 hv hc
      have o : ∀ i, 85 ≤ i ∨ i < 13 → gset q c v i = q i := fun i hi => gset_o (by omega) (by omega)
      simp only [fX6_ground, fX7_ground, c6, c7, w6, w7, hg, x1, y1, Option.bind_some, Option.elim_some, Option.elim_none, t10, t00, if_true, if_false]
      refine ⟨_, _, rfl, rfl, y2.symm, ⟨gset q c v, e, ⟨x2, x3, x4, k4.eq fun s _ => o _ (by omega), k5.eq fun s _ => o _ (by omega), k6.eq fun s _ => o _ (by omega), k7.eq fun s _ => o _ (by omega), by rw [o 1 (by omega)]; exact k8, by rw [o 0 (by omega)]; exact k9, k10, k11⟩, y3, IV_gset hv hc hv2, by rw [o 1 (by omega)]; exact hs⟩, hT⟩
    · simp only [fX6_ground, fX7_ground, c6, c7, w6, w7, g1, g2, Option.bind_some, Option.elim_some, Option.elim_none, t10, t00, if_true, if_false]
      exact ⟨_, _, rfl, rfl, rfl, hK, g3⟩
  · simp only [fX6_ground, fX7_ground, c6, c7, g1, g2, Option.bind_some, Option.elim_some, Option.elim_none, t10, t00, if_true, if_false]
    exact ⟨_, _, rfl, rfl, rfl, hK, g3⟩
theorem op_cell (n : Nat) (hn : 100 ≤ n) {p0_paths : Nat → Int32} {p0_water : Int64} {p0_wall : Int64} {p0_kind : Nat → Int32} {p0_place : Nat → Int32} {p0_facing : Nat → Int32} {p0_age : Nat → Int32} {p0_seeds : Int32} {p0_season : Int32} {p0_z : Int32} {p0_spots : Nat → Int32} {r told found : Nat → Int32} {b : Nat} (hK : XK p0_paths p0_water p0_wall p0_kind p0_place p0_facing p0_age p0_seeds p0_season p0_z p0_spots r b) (hT : XT told found) (a1 a2 : Int32) :
    ∃ x y, fX6_cell n a1 a2 p0_paths p0_water p0_wall p0_place p0_seeds told = some x ∧ fX7_cell n a1 a2 r found = some y ∧ x.1 = y.1 ∧ XT x.2 y.2 := by
  obtain ⟨t', f', g1, g2, g3⟩ := fnd n hT 0 (by decide) z_0 (L := -1000001) (by decide)
  rcases ce n a1 with ⟨c, hc, rfl, c6, c7⟩ | ⟨-, c6, c7⟩
  · obtain ⟨q, e, ⟨k1, k2, k3, k4, k5, k6, k7, k8, k9, k10, k11⟩, hr, hv, hs⟩ := hK
    subst k8
    have h2 := nbn_le (hp q) c
    rcases wi n (a := a2) 0 3 z_0 z_3 (by decide) (by decide) with ⟨v, -, hv2, rfl, w6, w7⟩ | ⟨hd, w6, w7⟩
    · have h13 := hr.at (13 + c) (by omega) (by omega)
      have h49 := hr.at (49 + c) (by omega) (by omega)
      have v1 : vi (nI (13 + c)) 117 := vi_N (by omega) (by decide)
      have v2 : vi (nI (49 + c)) 117 := vi_N (by omega) (by decide)
      have e0 : (nI v = 0) = (v = 0) := nI_eqE (b := 0) (by omega) (by decide)
      have e1 : (nI v = 1) = (v = 1) := nI_eqE (b := 1) (by omega) (by decide)
      have e2 : (nI v = 2) = (v = 2) := nI_eqE (b := 2) (by omega) (by decide)
      have e3 : (nI v = 3) = (v = 3) := nI_eqE (b := 3) (by omega) (by decide)
      have hcase : v = 0 ∨ v = 1 ∨ v = 2 ∨ v = 3 := by omega
      rcases hcase with rfl | rfl | rfl | rfl
      · simp only [fX6_cell, fX7_cell, c6, c7, w7, e0, e2_groundOf n k2 k3 hv hc, z_13, nI_add, if_pos v1, Option.bind_some, Option.elim_some, Option.elim_none, t10, t00, if_true, if_false, nI_clamp (show 13 + c < 2 ^ 31 by omega)]
        exact ⟨_, _, rfl, rfl, h13.symm, hT⟩
      · simp only [fX6_cell, fX7_cell, c6, c7, w7, e0, e1, e2_pathOf n k1 hc, z_49, nI_add, if_pos v2, Option.bind_some, Option.elim_some, Option.elim_none, t10, t00, if_true, if_false, nI_clamp (show 49 + c < 2 ^ 31 by omega), Nat.one_ne_zero]
        exact ⟨_, _, rfl, rfl, h49.symm, hT⟩
      · have d0 : (2 = 0) = False := eq_false (by decide)
        have d1 : (2 = 1) = False := eq_false (by decide)
        simp only [fX6_cell, fX7_cell, c6, c7, w7, e0, e1, e2, d0, d1, e_bit, e_neighbours, e2_pathSet n hn k1 hv, bc_adj n hc, e7_pathsBeside n hn hr hv hc, Option.bind_some, Option.elim_some, Option.elim_none, t10, t00, if_true, if_false]
        exact ⟨_, _, rfl, rfl, rfl, hT⟩
      · have d0 : (3 = 0) = False := eq_false (by decide)
        have d1 : (3 = 1) = False := eq_false (by decide)
        have d2 : (3 = 2) = False := eq_false (by decide)
        simp only [fX6_cell, fX7_cell, c6, c7, w7, e0, e1, e2, e3, d0, d1, d2, e2_headsOn n hn k5 hv hc, e7_headsOn n hn hr hv hc, Option.bind_some, Option.elim_some, Option.elim_none, t10, t00, if_true, if_false]
        exact ⟨_, _, rfl, rfl, rfl, hT⟩
    · simp only [fX6_cell, fX7_cell, c6, c7, w7, outK z_0 hd (by decide) (by decide) (by decide), outK z_1 hd (by decide) (by decide) (by decide), outK z_2 hd (by decide) (by decide) (by decide), outK z_3 hd (by decide) (by decide) (by decide), g1, g2, Option.bind_some, Option.elim_some, Option.elim_none, t10, t00, if_true, if_false]
      exact ⟨_, _, rfl, rfl, rfl, g3⟩
  · simp only [fX6_cell, fX7_cell, c6, c7, g1, g2, Option.bind_some, Option.elim_some, Option.elim_none, t10, t00, if_true, if_false]
    exact ⟨_, _, rfl, rfl, rfl, g3⟩
/-- a path is set on grass -/
theorem XK_path {p0_paths : Nat → Int32} {p0_water : Int64} {p0_wall : Int64} {p0_kind : Nat → Int32} {p0_place : Nat → Int32} {p0_facing : Nat → Int32} {p0_age : Nat → Int32} {p0_seeds : Int32} {p0_season : Int32} {p0_z : Int32} {p0_spots : Nat → Int32} {r : Nat → Int32} {b : Nat} {q : Nat → Nat} {e : Nat → Int32} (k : CP p0_paths p0_water p0_wall p0_kind p0_place p0_facing p0_age p0_seeds p0_season p0_z p0_spots q e) (hr : RM r q e) (hv : IV b q) (hs : SPT e (q 1)) {c v : Nat} (hc : c < 36) (h99 : v ≤ 99) (hg : q (13 + c) ≠ 0 → v = 0) : XK (upd p0_paths c (nI v)) p0_water p0_wall p0_kind p0_place p0_facing p0_age p0_seeds p0_season p0_z p0_spots (upd r (49 + c) (nI v)) b := by
  obtain ⟨k1, k2, k3, k4, k5, k6, k7, k8, k9, k10, k11⟩ := k
  refine ⟨upq q (49 + c) v, e, ⟨k1.up c v, k2.skip _ _ (by omega), k3.skip _ _ (by omega), k4.eq fun s _ => upq_F (by omega), k5.eq fun s _ => upq_F (by omega), k6.eq fun s _ => upq_F (by omega), k7.eq fun s _ => upq_F (by omega), by rw [upq_F (by omega)]; exact k8, by rw [upq_F (by omega)]; exact k9, k10, k11⟩, hr.up _ _ (by omega), hv.path hc h99 hg, by rw [upq_F (by omega)]; exact hs⟩
theorem op_tread (n : Nat) {p0_paths : Nat → Int32} {p0_water : Int64} {p0_wall : Int64} {p0_kind : Nat → Int32} {p0_place : Nat → Int32} {p0_facing : Nat → Int32} {p0_age : Nat → Int32} {p0_seeds : Int32} {p0_season : Int32} {p0_z : Int32} {p0_spots : Nat → Int32} {r told found : Nat → Int32} {b : Nat} (hK : XK p0_paths p0_water p0_wall p0_kind p0_place p0_facing p0_age p0_seeds p0_season p0_z p0_spots r b) (hT : XT told found) (a1 a2 : Int32) :
    ∃ x y, fX6_tread n a1 a2 p0_paths p0_water p0_wall told = some x ∧ fX7_tread n a1 a2 r found = some y ∧ x.1 = y.1 ∧ XK x.2.1 p0_water p0_wall p0_kind p0_place p0_facing p0_age p0_seeds p0_season p0_z p0_spots y.2.1 b ∧ XT x.2.2 y.2.2 := by
  obtain ⟨t', f', g1, g2, g3⟩ := fnd n hT 0 (by decide) z_0 (L := -1000001) (by decide)
  obtain ⟨t4, f4, i1, i2, i3⟩ := fnd n hT 4 (by decide) z_4 (L := -1000005) (by decide)
  rcases ce n a1 with ⟨c, hc, rfl, c6, c7⟩ | ⟨-, c6, c7⟩
  · rcases pt n a2 with ⟨v, hv2, rfl, w6, w7⟩ | ⟨-, w6, w7⟩
    · obtain ⟨q, e, k, hr, hv, hs⟩ := hK
      have k' := k
      obtain ⟨k1, k2, k3, k4, k5, k6, k7, k8, k9, k10, k11⟩ := k'
      have h6 := e2_isGrass n k2 k3 hv hc
      have h7 := e7_isGrass n hr hv hc
      by_cases hg : q (13 + c) = 0
      · rw [if_pos hg] at h6 h7
        have v2 : vi (nI (49 + c)) 117 := vi_N (by omega) (by decide)
        have hb := e2_becomePath n (v := nI v) (paths := p0_paths) k2 k3 hv hc
        rw [if_pos hg] at hb
        simp only [fX6_tread, fX7_tread, fX7_become, c6, c7, w6, w7, h6, h7, e2_pathOf n k1 hc, hb, z_49, nI_add, if_pos v2, Option.bind_some, Option.elim_some, Option.elim_none, t10, t00, if_true, if_false, nI_clamp (show 49 + c < 2 ^ 31 by omega)]
        exact ⟨_, _, rfl, rfl, (hr.at (49 + c) (by omega) (by omega)).symm, XK_path k hr hv hs hc hv2 (fun h => absurd hg h), hT⟩
      · rw [if_neg hg] at h6 h7
        simp only [fX6_tread, fX7_tread, c6, c7, w6, w7, h6, h7, i1, i2, Option.bind_some, Option.elim_some, Option.elim_none, t10, t00, if_true, if_false]
        exact ⟨_, _, rfl, rfl, rfl, ⟨q, e, k, hr, hv, hs⟩, i3⟩
    · simp only [fX6_tread, fX7_tread, c6, c7, w6, w7, g1, g2, Option.bind_some, Option.elim_some, Option.elim_none, t10, t00, if_true, if_false]
      exact ⟨_, _, rfl, rfl, rfl, hK, g3⟩
  · simp only [fX6_tread, fX7_tread, c6, c7, g1, g2, Option.bind_some, Option.elim_some, Option.elim_none, t10, t00, if_true, if_false]
    exact ⟨_, _, rfl, rfl, rfl, hK, g3⟩
/-! a new seed -/
def qpl (q : Nat → Nat) (k c h a : Nat) : Nat → Nat := upq (upq (upq (upq (upq q (85 + 4 * q 1) k) (85 + 4 * q 1 + 1) c) (85 + 4 * q 1 + 2) h) (85 + 4 * q 1 + 3) a) 1 (q 1 + 1)
theorem SPT.up {e : Nat → Int32} {k m : Nat} (h : SPT e k) (hk : k ≤ m) : SPT e m := fun i hi => by
  rcases h i hi with h1 | ⟨s, h1, h2⟩
  · exact Or.inl h1
  · exact Or.inr ⟨s, by omega, h2⟩
theorem IV_qpl {b : Nat} {q : Nat → Nat} {k c h a : Nat} (hv : IV b q) (h8 : q 1 < 8) (hk : k < 7) (hc : c < 36) (hh : h < 4) (ha : a ≤ 999) : IV b (qpl q k c h a) := by
  unfold qpl
  refine ⟨by rw [upq_T rfl]; omega, by rw [upq_F (by omega), upq_F (by omega), upq_F (by omega), upq_F (by omega), upq_F (by omega)]; exact hv.2.1, fun d hd => ?_, fun s hs => ?_⟩
  · rw [upq_F (j := 49 + d) (by omega), upq_F (j := 49 + d) (by omega), upq_F (j := 49 + d) (by omega), upq_F (j := 49 + d) (by omega), upq_F (j := 49 + d) (by omega), upq_F (j := 13 + d) (by omega), upq_F (j := 13 + d) (by omega), upq_F (j := 13 + d) (by omega), upq_F (j := 13 + d) (by omega), upq_F (j := 13 + d) (by omega)]; exact hv.2.2.1 d hd
  · by_cases e : s = q 1
    · subst e
      have e0 : ∀ x, upq (upq (upq (upq (upq q (85 + 4 * q 1) k) (85 + 4 * q 1 + 1) c) (85 + 4 * q 1 + 2) h) (85 + 4 * q 1 + 3) a) 1 x (85 + 4 * q 1) = k := fun x => by rw [upq_F (by omega), upq_F (by omega), upq_F (by omega), upq_F (by omega), upq_T rfl]
      have e1 : ∀ x, upq (upq (upq (upq (upq q (85 + 4 * q 1) k) (85 + 4 * q 1 + 1) c) (85 + 4 * q 1 + 2) h) (85 + 4 * q 1 + 3) a) 1 x (85 + 4 * q 1 + 1) = c := fun x => by rw [upq_F (by omega), upq_F (by omega), upq_F (by omega), upq_T rfl]
      have e2 : ∀ x, upq (upq (upq (upq (upq q (85 + 4 * q 1) k) (85 + 4 * q 1 + 1) c) (85 + 4 * q 1 + 2) h) (85 + 4 * q 1 + 3) a) 1 x (85 + 4 * q 1 + 2) = h := fun x => by rw [upq_F (by omega), upq_F (by omega), upq_T rfl]
      have e3 : ∀ x, upq (upq (upq (upq (upq q (85 + 4 * q 1) k) (85 + 4 * q 1 + 1) c) (85 + 4 * q 1 + 2) h) (85 + 4 * q 1 + 3) a) 1 x (85 + 4 * q 1 + 3) = a := fun x => by rw [upq_F (by omega), upq_T rfl]
      rw [e0, e1, e2, e3]; omega
    · have e4 : ∀ j x, 85 + 4 * s ≤ j → j < 85 + 4 * s + 4 → upq (upq (upq (upq (upq q (85 + 4 * q 1) k) (85 + 4 * q 1 + 1) c) (85 + 4 * q 1 + 2) h) (85 + 4 * q 1 + 3) a) 1 x j = q j := fun j x h1 h2 => by rw [upq_F (by omega), upq_F (by omega), upq_F (by omega), upq_F (by omega), upq_F (by omega)]
      rw [e4 _ _ (by omega) (by omega), e4 _ _ (by omega) (by omega), e4 _ _ (by omega) (by omega), e4 _ _ (by omega) (by omega)]; exact hv.2.2.2 s hs
theorem CP_plant (n : Nat) {p0_paths : Nat → Int32} {p0_water : Int64} {p0_wall : Int64} {p0_kind : Nat → Int32} {p0_place : Nat → Int32} {p0_facing : Nat → Int32} {p0_age : Nat → Int32} {p0_seeds : Int32} {p0_season : Int32} {p0_z : Int32} {p0_spots : Nat → Int32} {q : Nat → Nat} {e : Nat → Int32} (kk : CP p0_paths p0_water p0_wall p0_kind p0_place p0_facing p0_age p0_seeds p0_season p0_z p0_spots q e) (h8 : q 1 < 8) {k c h a : Nat} :
    ∃ x, fX2_plant n (nI k) (nI c) (nI h) (nI a) p0_kind p0_place p0_facing p0_age p0_seeds = some x ∧ x.1 = nI (q 1) ∧ CP p0_paths p0_water p0_wall x.2.1 x.2.2.1 x.2.2.2.1 x.2.2.2.2.1 x.2.2.2.2.2 p0_season p0_z p0_spots (qpl q k c h a) e := by
  obtain ⟨k1, k2, k3, k4, k5, k6, k7, k8, k9, k10, k11⟩ := kk
  subst k8
  unfold fX2_plant
  rw [e2_sownAt n h8, Option.bind_some, Option.elim_some, z_1, nI_add, pk_sub (by omega)]
  refine ⟨_, rfl, by rw [Nat.add_sub_cancel], ?_⟩
  have e0 : ∀ j, (j < 85 ∧ j ≠ 1) → qpl q k c h a j = q j := fun j hj => by unfold qpl; rw [upq_F (by omega), upq_F (by omega), upq_F (by omega), upq_F (by omega), upq_F (by omega)]
  refine ⟨k1.eq fun c _ => e0 _ (by omega), k2.eq fun c _ => e0 _ (by omega), k3.eq fun c _ => e0 _ (by omega), fun s hs => ?_, fun s hs => ?_, fun s hs => ?_, fun s hs => ?_, (by unfold qpl; rw [upq_T rfl]), by rw [e0 0 (by omega)]; exact k9, k10, k11⟩
  · unfold qpl
    dsimp only
    by_cases es : s = q 1
    · subst es; rw [upd_T rfl, upq_F (by omega), upq_F (by omega), upq_F (by omega), upq_F (by omega), upq_T (by omega)]
    · rw [upd_F (by omega), upq_F (by omega), upq_F (by omega), upq_F (by omega), upq_F (by omega), upq_F (by omega)]; exact k4 s hs
  · unfold qpl
    dsimp only
    by_cases es : s = q 1
    · subst es; rw [upd_T rfl, upq_F (by omega), upq_F (by omega), upq_F (by omega), upq_T (by omega)]
    · rw [upd_F (by omega), upq_F (by omega), upq_F (by omega), upq_F (by omega), upq_F (by omega), upq_F (by omega)]; exact k5 s hs
  · unfold qpl
    dsimp only
    by_cases es : s = q 1
    · subst es; rw [upd_T rfl, upq_F (by omega), upq_F (by omega), upq_T (by omega)]
    · rw [upd_F (by omega), upq_F (by omega), upq_F (by omega), upq_F (by omega), upq_F (by omega), upq_F (by omega)]; exact k6 s hs
  · unfold qpl
    dsimp only
    by_cases es : s = q 1
    · subst es; rw [upd_T rfl, upq_F (by omega), upq_T (by omega)]
    · rw [upd_F (by omega), upq_F (by omega), upq_F (by omega), upq_F (by omega), upq_F (by omega), upq_F (by omega)]; exact k7 s hs
theorem e7_comes (n : Nat) {r : Nat → Int32} {q : Nat → Nat} {e : Nat → Int32} (hr : RM r q e) (h8 : q 1 < 8) {k c h a : Nat} :
    ∃ x, fX7_comes n (nI k) (nI c) (nI h) (nI a) r = some x ∧ x.1 = nI (q 1) ∧ RM x.2 (qpl q k c h a) e := by
  have h1r : r (1 : Int32).toNatClampNeg = nI (q 1) := hr.at 1 (by decide) (by decide)
  have h1 : (1 : Int32).toNatClampNeg = 1 := by decide
  have a0 : fX7_at n (nI (q 1)) (0 : Int32) = some (nI (85 + 4 * q 1)) := e7_at n (q 1) 0
  have a1 : fX7_at n (nI (q 1)) (1 : Int32) = some (nI (85 + 4 * q 1 + 1)) := e7_at n (q 1) 1
  have a2 : fX7_at n (nI (q 1)) (2 : Int32) = some (nI (85 + 4 * q 1 + 2)) := e7_at n (q 1) 2
  have a3 : fX7_at n (nI (q 1)) (3 : Int32) = some (nI (85 + 4 * q 1 + 3)) := e7_at n (q 1) 3
  unfold fX7_comes
  rw [h1r, a0, a1, a2, a3]
  simp only [Option.bind_some]
  rw [if_pos (vi_N (by omega) (by decide)), if_pos (vi_N (by omega) (by decide)), if_pos (vi_N (by omega) (by decide)), if_pos (vi_N (by omega) (by decide)), nI_clamp (by omega), nI_clamp (by omega), nI_clamp (by omega), nI_clamp (by omega), h1]
  refine ⟨_, rfl, rfl, ?_⟩
  have h2 := ((((hr.up (85 + 4 * q 1) k (by omega)).up (85 + 4 * q 1 + 1) c (by omega)).up (85 + 4 * q 1 + 2) h (by omega)).up (85 + 4 * q 1 + 3) a (by omega)).up 1 (q 1 + 1) (by omega)
  have h3 : (upd (upd (upd (upd r (85 + 4 * q 1) (nI k)) (85 + 4 * q 1 + 1) (nI c)) (85 + 4 * q 1 + 2) (nI h)) (85 + 4 * q 1 + 3) (nI a)) 1 + (1 : Int32) = nI (q 1 + 1) := by
    rw [upd_F (by omega), upd_F (by omega), upd_F (by omega), upd_F (by omega), hr.at 1 (by decide) (by decide), z_1, nI_add]
  rw [h3]
  exact h2
theorem e2_isFull (n : Nat) {k : Nat} (h : k ≤ 8) : fX2_isFull n (nI k) = some (if k = 8 then nI 1 else nI 0) := by
  unfold fX2_isFull
  by_cases e : k = 8
  · rw [if_pos e, if_neg (ltK_F z_8 (by omega) (by omega))]; rfl
  · rw [if_neg e, if_pos (ltK_T z_8 (by omega) (by decide))]; rfl
theorem op_sow (n : Nat) {p0_paths : Nat → Int32} {p0_water : Int64} {p0_wall : Int64} {p0_kind : Nat → Int32} {p0_place : Nat → Int32} {p0_facing : Nat → Int32} {p0_age : Nat → Int32} {p0_seeds : Int32} {p0_season : Int32} {p0_z : Int32} {p0_spots : Nat → Int32} {r told found : Nat → Int32} {b : Nat} (hK : XK p0_paths p0_water p0_wall p0_kind p0_place p0_facing p0_age p0_seeds p0_season p0_z p0_spots r b) (hT : XT told found) (a1 a2 a3 : Int32) :
    ∃ x y, fX6_sow n a1 a2 a3 p0_kind p0_place p0_facing p0_age p0_seeds told = some x ∧ fX7_sow n a1 a2 a3 r found = some y ∧ x.1 = y.1 ∧ XK p0_paths p0_water p0_wall x.2.1 x.2.2.1 x.2.2.2.1 x.2.2.2.2.1 x.2.2.2.2.2.1 p0_season p0_z p0_spots y.2.1 b ∧ XT x.2.2.2.2.2.2 y.2.2 := by
  obtain ⟨t', f', g1, g2, g3⟩ := fnd n hT 0 (by decide) z_0 (L := -1000001) (by decide)
  obtain ⟨t4, f4, i1, i2, i3⟩ := fnd n hT 1 (by decide) z_1 (L := -1000002) (by decide)
  rcases kd n a1 with ⟨k, hk, rfl, c6, c7⟩ | ⟨-, c6, c7⟩
  · rcases ce n a2 with ⟨c, hc, rfl, d6, d7⟩ | ⟨-, d6, d7⟩
    · rcases hg n a3 with ⟨h, hh, rfl, w6, w7⟩ | ⟨-, w6, w7⟩
      · obtain ⟨q, e, kk, hr, hv, hs⟩ := hK
        have h1r : r (1 : Int32).toNatClampNeg = nI (q 1) := hr.at 1 (by decide) (by decide)
        have h8 := hv.1
        have hsd : p0_seeds = nI (q 1) := kk.2.2.2.2.2.2.2.1
        have hF := e2_isFull n hv.1
        by_cases e8 : q 1 = 8
        · rw [if_pos e8] at hF
          have hq : (nI (q 1) = (8 : Int32)) = True := eq_true (by rw [e8]; rfl)
          rw [hsd]
          simp only [fX6_sow, fX7_sow, c6, c7, d6, d7, w6, w7, hF, h1r, hq, i1, i2, Option.bind_some, Option.elim_some, Option.elim_none, t10, t00, if_true, if_false]
          rw [← hsd]
          exact ⟨_, _, rfl, rfl, rfl, ⟨q, e, kk, hr, hv, hs⟩, i3⟩
        · rw [if_neg e8] at hF
          have hq : (nI (q 1) = (8 : Int32)) = False := eq_false (nIneK z_8 e8 (by omega) (by decide))
          obtain ⟨x, x1, x2, x3⟩ := CP_plant n kk (show q 1 < 8 by omega) (k := k) (c := c) (h := h) (a := 0)
          obtain ⟨y, y1, y2, y3⟩ := e7_comes n hr (show q 1 < 8 by omega) (k := k) (c := c) (h := h) (a := 0)
          rw [show nI 0 = (0 : Int32) from rfl] at x1 y1
          rw [hsd] at x1 ⊢
          simp only [fX6_sow, fX7_sow, c6, c7, d6, d7, w6, w7, hF, h1r, hq, x1, y1, Option.bind_some, Option.elim_some, Option.elim_none, t10, t00, if_true, if_false]
          exact ⟨_, _, rfl, rfl, x2.trans y2.symm, ⟨_, e, x3, y3, IV_qpl hv (by omega) hk hc hh (by decide), hs.up (by unfold qpl; rw [upq_T rfl]; omega)⟩, hT⟩
      · simp only [fX6_sow, fX7_sow, c6, c7, d6, d7, w6, w7, g1, g2, Option.bind_some, Option.elim_some, Option.elim_none, t10, t00, if_true, if_false]
        exact ⟨_, _, rfl, rfl, rfl, hK, g3⟩
    · simp only [fX6_sow, fX7_sow, c6, c7, d6, d7, g1, g2, Option.bind_some, Option.elim_some, Option.elim_none, t10, t00, if_true, if_false]
      exact ⟨_, _, rfl, rfl, rfl, hK, g3⟩
  · simp only [fX6_sow, fX7_sow, c6, c7, g1, g2, Option.bind_some, Option.elim_some, Option.elim_none, t10, t00, if_true, if_false]
    exact ⟨_, _, rfl, rfl, rfl, hK, g3⟩
