/-! the turn of a seed -/
theorem nIneK {k m : Nat} {K : Int32} (hK : K = nI m) (h : ¬ k = m) (h1 : k < 2 ^ 31) (h2 : m < 2 ^ 31) : ¬ nI k = K := by
  subst hK; exact fun e => h ((nI_eq h1 h2).mp e)
theorem t_self : ∀ c, c < 36 → tws c c = 4 := by decide +kernel
theorem t_tws : ∀ c, c < 36 → ∀ g, g < 36 → c ≠ g → tws c g < 4 := fun _ hc _ hg h => tws_lt hc hg h
theorem e0_turned (n : Nat) {a b : Nat} (h : a + b < 2 ^ 31) : fX0_turned n (nI a) (nI b) = some (nI ((a + b) % 4)) := by
  unfold fX0_turned
  rw [z_4, nI_add, pk_rem h (by decide) (by decide)]
theorem e2_tow (n : Nat) (hn : 10 ≤ n) {j c g : Nat} {place facing : Nat → Int32} {f : Nat} (hp : place j = nI c) (hf : facing j = nI f) (hc : c < 36) (hg : g ≤ 36) : fX2_toward n j (nbI g) place facing = some (nI (if g = 36 ∨ g = c then f else tws c g)) := by
  rw [e2_toward n hn hp hc hg, hf]
  by_cases h1 : g = 36
  · rw [if_neg (by omega), if_pos (Or.inl h1)]
  · by_cases h2 : g = c
    · subst h2
      rw [t_self g hc, if_neg (by omega), if_pos (Or.inr rfl)]
    · have := tws_lt hc (show g < 36 by omega) (fun e => h2 e.symm)
      rw [if_pos ⟨by omega, this⟩, if_neg (by omega)]
theorem e2_turnOf (n : Nat) (hn : 40 ≤ n) {j : Nat} {water : Int64} {kind place facing age : Nat → Int32} {q : Nat → Nat} {b : Nat} (hw : RS water q 1) (hk : RF kind q 0) (hp : RF place q 1) (hf : RF facing q 2) (ha : RF age q 3) (hv : IV b q) (hb : b < 2 ^ 31) (hj : j < 8) :
    fX2_turnOf n j water kind place facing age (nI (q 1)) (nI (q 0)) = some (nI (turn q j)) := by
  have hc : q (85 + 4 * j + 1) < 36 := (hv.2.2.2 j hj).2.1
  have hh := hv.2.2.2 j hj
  have hs0 := hv.2.1
  have hbt := btu_lt hv hj
  have hrt := rtu_lt hv hj
  have eB : (fX2_nearestWater n j water place).bind (fun q2 => (fX2_toward n j q2 place facing).bind (fun q4 => some q4)) = some (nI (btu q j)) := by
    rw [e2_nearestWater n hn hw (hp j hj) hc, Option.bind_some, e2_tow n (by omega) (hp j hj) (hf j hj) hc (nwat_le q _)]
    rfl
  have eR : ∀ {α : Type} (k : Int32 → Option α), (fX2_nearestCompany n j water kind place age (nI (q 1))).bind (fun q2 => (fX2_toward n j q2 place facing).bind k) = k (nI (rtu q j)) := by
    intro α k
    have hl := nhd_le hv (q (85 + 4 * j + 1))
    have hne := nhd_ne (q := q) (q (85 + 4 * j + 1))
    rw [e2_nearestCompany n hn hw hk hp ha hv hj, Option.bind_some]
    unfold rtu btu
    by_cases h : nhd q (q (85 + 4 * j + 1)) = 36
    · rw [if_pos h, e2_tow n (by omega) (hp j hj) (hf j hj) hc (nwat_le q _), Option.bind_some]
      simp only [h, if_true]
    · rw [if_neg h, e2_tow n (by omega) (hp j hj) (hf j hj) hc hl, Option.bind_some, if_neg (by omega)]
      simp only [h, if_false]
  unfold fX2_turnOf
  rw [hk.k0 hj, hf j hj, ha j hj, pk_andN (by omega) 1 (by decide), pk_andN (by omega) 1 (by decide)]
  unfold turn
  simp only []
  by_cases k2 : q (85 + 4 * j) = 2
  · rw [if_pos (by rw [k2]; rfl), if_pos k2]; exact eB
  · rw [if_neg (nIneK z_2 k2 (by omega) (by decide)), if_neg k2]
    by_cases k3 : q (85 + 4 * j) = 3
    · rw [if_pos (by rw [k3]; rfl), if_pos k3]; exact eR _
    · rw [if_neg (nIneK z_3 k3 (by omega) (by decide)), if_neg k3]
      by_cases k4 : q (85 + 4 * j) = 4
      · rw [if_pos (by rw [k4]; rfl), if_pos k4, eR, e0_turned n (by omega)]; rfl
      · rw [if_neg (nIneK z_4 k4 (by omega) (by decide)), if_neg k4]
        by_cases k5 : q (85 + 4 * j) = 5
        · rw [if_pos (by rw [k5]; rfl), if_pos k5, z_1, e0_turned n (by omega)]; rfl
        · rw [if_neg (nIneK z_5 k5 (by omega) (by decide)), if_neg k5]
          by_cases k6 : q (85 + 4 * j) = 6
          · rw [if_pos (by rw [k6]; rfl), if_pos k6, e0_turned n (by omega)]; rfl
          · rw [if_neg (nIneK z_6 k6 (by omega) (by decide)), if_neg k6]
theorem e7_bulbTurn (n : Nat) (hn : 40 ≤ n) {s : Nat} {r : Nat → Int32} {q : Nat → Nat} {e : Nat → Int32} {b : Nat} (hr : RM r q e) (hv : IV b q) (hs : s < 8) : fX7_bulbTurn n (nI s) r = some (nI (btu q s)) := by
  have hc : q (85 + 4 * s + 1) < 36 := (hv.2.2.2 s hs).2.1
  have hl := nwat_le q (q (85 + 4 * s + 1))
  unfold fX7_bulbTurn btu
  simp only []
  rw [e7_seedK n z_1 hr hs (by decide), Option.bind_some, e7_nearestWater n hn hr hv hc, Option.bind_some, e7_seedK n z_2 hr hs (by decide)]
  by_cases h1 : nwat q (q (85 + 4 * s + 1)) = 36
  · rw [h1, nbI_F (by decide), if_pos (by decide), if_pos (Or.inl rfl)]; rfl
  · rw [nbI_T (by omega), if_neg (nI_pos (by omega))]
    by_cases h2 : nwat q (q (85 + 4 * s + 1)) = q (85 + 4 * s + 1)
    · rw [if_pos (by rw [h2]), if_pos (Or.inr h2)]; rfl
    · rw [if_neg (fun e => h2 ((nI_eq (by omega) (by omega)).mp e)), if_neg (by omega), e7_toward n (by omega) hc (by omega) (fun e => h2 e.symm)]; rfl
theorem e7_runnerTurn (n : Nat) (hn : 40 ≤ n) {s : Nat} {r lives : Nat → Int32} {q : Nat → Nat} {e : Nat → Int32} {b : Nat} (hr : RM r q e) (hl : LV lives) (hv : IV b q) (hs : s < 8) : fX7_runnerTurn n (nI s) r lives = some (nI (rtu q s)) := by
  have hc : q (85 + 4 * s + 1) < 36 := (hv.2.2.2 s hs).2.1
  have hl2 := nhd_le hv (q (85 + 4 * s + 1))
  have hne := nhd_ne (q := q) (q (85 + 4 * s + 1))
  unfold fX7_runnerTurn rtu
  simp only []
  rw [e7_nearestHead n hn hr hl hv hs, Option.bind_some, e7_seedK n z_1 hr hs (by decide), e7_bulbTurn n hn hr hv hs]
  by_cases h1 : nhd q (q (85 + 4 * s + 1)) = 36
  · rw [h1, nbI_F (by decide), if_neg (by decide), if_pos rfl]; rfl
  · rw [nbI_T (by omega), if_pos (nI_pos' (by omega)), if_neg h1, Option.bind_some, e7_toward n (by omega) hc (by omega) (by omega)]; rfl
theorem e7_turnOf (n : Nat) (hn : 40 ≤ n) {s : Nat} {r lives : Nat → Int32} {q : Nat → Nat} {e : Nat → Int32} {b : Nat} (hr : RM r q e) (hl : LV lives) (hv : IV b q) (hb : b < 2 ^ 31) (hs : s < 8) : fX7_turnOf n (nI s) r lives = some (nI (turn q s)) := by
  have hh := hv.2.2.2 s hs
  have hs0 := hv.2.1
  have hrt := rtu_lt hv hs
  have h0r : r (0 : Int32).toNatClampNeg = nI (q 0) := hr.at 0 (by decide) (by decide)
  unfold fX7_turnOf
  rw [e7_seedK n z_0 hr hs (by decide), Option.bind_some, h0r, e7_seedK n z_2 hr hs (by decide), e7_seedK n z_3 hr hs (by decide), e7_bulbTurn n hn hr hv hs, e7_runnerTurn n hn hr hl hv hs, Nat.add_zero]
  unfold turn
  simp only [Option.bind_some]
  by_cases k2 : q (85 + 4 * s) = 2
  · rw [if_pos (by rw [k2]; rfl), if_pos k2]
  · rw [if_neg (nIneK z_2 k2 (by omega) (by decide)), if_neg k2]
    by_cases k3 : q (85 + 4 * s) = 3
    · rw [if_pos (by rw [k3]; rfl), if_pos k3]
    · rw [if_neg (nIneK z_3 k3 (by omega) (by decide)), if_neg k3]
      by_cases k4 : q (85 + 4 * s) = 4
      · rw [if_pos (by rw [k4]; rfl), if_pos k4, z_2, z_4, pk_rem (by omega) (by decide) (by decide), nI_add, pk_rem (by omega) (by decide) (by decide)]
      · rw [if_neg (nIneK z_4 k4 (by omega) (by decide)), if_neg k4]
        by_cases k5 : q (85 + 4 * s) = 5
        · rw [if_pos (by rw [k5]; rfl), if_pos k5, z_1, z_4, nI_add, pk_rem (by omega) (by decide) (by decide)]
        · rw [if_neg (nIneK z_5 k5 (by omega) (by decide)), if_neg k5]
          by_cases k6 : q (85 + 4 * s) = 6
          · rw [if_pos (by rw [k6]; rfl), if_pos k6, z_2, z_4, pk_rem (by omega) (by decide) (by decide), nI_add, pk_rem (by omega) (by decide) (by decide)]
          · rw [if_neg (nIneK z_6 k6 (by omega) (by decide)), if_neg k6]
