/-! sheets -/
def XH (hn : Nat → Nat → Int32) (hb hs wd sz nu : Nat → Int32) : Prop := ∀ s, s < 4 → wd s = hb s ∧ sz s = hs s ∧ (∃ z, z ≤ 40 ∧ hs s = nI z) ∧ ∀ i, i < 40 → nu (40 * s + i) = hn s i
theorem tL1 : ((-1000001 : Int32) = 0) = False := eq_false (by decide)
theorem tL6 : ((-1000006 : Int32) = 0) = False := eq_false (by decide)
theorem shl (n : Nat) {hn : Nat → Nat → Int32} {hb hs wd sz nu : Nat → Int32} (h : XH hn hb hs wd sz nu) (a : Int32) :
    (∃ s, s < 4 ∧ a = nI s ∧ fX6_sheetAt n a = some (some s) ∧ fX7_isSheet n a = some (nI 1) ∧ ((hb s = 0 ∧ fX4_isMissing n s hb = some (nI 1) ∧ fX7_lacks n a wd = some (-1000006)) ∨ (¬ hb s = 0 ∧ fX4_isMissing n s hb = some (nI 0) ∧ fX7_lacks n a wd = some (nI 0)))) ∨
    (fX6_sheetAt n a = some none ∧ fX7_isSheet n a = some (nI 0) ∧ fX7_lacks n a wd = some (-1000001)) := by
  rcases rg a 4 (by decide) with ⟨s, hs1, rfl⟩ | h1
  · have i7 : fX7_isSheet n (nI s) = some (nI 1) := by
      unfold fX7_isSheet
      rw [show fX7_within n (nI s) 0 3 = _ from e7_within n (Nat.zero_le s) (show s ≤ 3 by omega) (by decide)]; rfl
    have hw := (h s hs1).1
    refine Or.inl ⟨s, hs1, rfl, ?_, i7, ?_⟩
    · unfold fX6_sheetAt
      rw [if_neg (nI_pos (by omega)), if_neg (Kle_F z_4 hs1 (by decide)), if_pos (vi_N hs1 (by decide)), nI_clamp (by omega)]
    · by_cases h0 : hb s = 0
      · refine Or.inl ⟨h0, by unfold fX4_isMissing; rw [if_pos h0]; rfl, ?_⟩
        unfold fX7_lacks
        rw [i7, Option.bind_some, if_neg (by decide), if_pos (vi_N hs1 (by decide)), nI_clamp (by omega), if_pos (by rw [hw]; exact h0)]
      · refine Or.inr ⟨h0, by unfold fX4_isMissing; rw [if_neg h0]; rfl, ?_⟩
        unfold fX7_lacks
        rw [i7, Option.bind_some, if_neg (by decide), if_pos (vi_N hs1 (by decide)), nI_clamp (by omega), if_neg (by rw [hw]; exact h0)]; rfl
  · have i7 : fX7_isSheet n a = some (nI 0) := by
      unfold fX7_isSheet
      rw [show fX7_within n a 0 3 = _ from e7_withinB n (by rw [i32_lt_of_le (by decide)] at h1; exact h1)]; rfl
    refine Or.inr ⟨?_, i7, by unfold fX7_lacks; rw [i7, Option.bind_some, if_pos (by rfl)]⟩
    unfold fX6_sheetAt
    by_cases h2 : a < 0
    · rw [if_pos h2]
    · rw [if_neg h2, if_pos (show (4 : Int32) ≤ a from h1.resolve_left h2)]
theorem e4_numberAt (n : Nat) {s i : Nat} {hn : Nat → Nat → Int32} (hi : i < 40) : fX4_numberAt n s (nI i) hn = some (hn s i) := by
  unfold fX4_numberAt
  rw [e6_at n hi (by decide)]; rfl
/-! a path as told -/
def al (p : Nat → Bool) : Nat → Bool
  | 0 => true
  | n + 1 => al p n && p n
theorem al_iff {p : Nat → Bool} : ∀ {n : Nat}, al p n = true ↔ ∀ j, j < n → p j = true := by
  intro n
  induction n with
  | zero => exact ⟨fun _ j hj => absurd hj (Nat.not_lt_zero _), fun _ => rfl⟩
  | succ n ih =>
    rw [al, Bool.and_eq_true, ih]
    constructor
    · rintro ⟨h1, h2⟩ j hj
      by_cases e : j = n
      · subst e; exact h2
      · exact h1 j (by omega)
    · exact fun h => ⟨fun j hj => h j (by omega), h n (by omega)⟩
def okk (nums : Nat → Int32) (c : Nat) (q : Nat → Nat) (k : Nat) : Bool := decide (nums k = -1) || decide (nums k = nI (its k q (49 + c)))
theorem e6_told (n : Nat) (hn2 : 200 ≤ n) {v : PK} {hn : Nat → Nat → Int32} {hs : Nat → Int32} {q : Nat → Nat} {e : Nat → Int32} {b s c z : Nat} (kk : CP v.1 v.2.1 v.2.2.1 v.2.2.2.1 v.2.2.2.2.1 v.2.2.2.2.2.1 v.2.2.2.2.2.2.1 v.2.2.2.2.2.2.2.1 v.2.2.2.2.2.2.2.2.1 v.2.2.2.2.2.2.2.2.2.1 v.2.2.2.2.2.2.2.2.2.2 q e) (hv : IV b q) (hb : b < 90000) (hz : hs s = nI z) (h40 : z ≤ 40) (hc : c < 36) :
    ∃ u, fX6_trialGoesAsTold n s (nI c) v.1 v.2.1 v.2.2.1 v.2.2.2.1 v.2.2.2.2.1 v.2.2.2.2.2.1 v.2.2.2.2.2.2.1 v.2.2.2.2.2.2.2.1 v.2.2.2.2.2.2.2.2.1 hn hs = some u ∧ u.1 = if al (okk (hn s) c q) z = true then nI 1 else nI 0 := by
  unfold fX6_trialGoesAsTold
  refine lpm (fun S => ∃ k P L F A sn, S = (nI k, P, L, F, A, sn) ∧ k ≤ z ∧ CP P v.2.1 v.2.2.1 v.2.2.2.1 L F A v.2.2.2.2.2.2.2.1 sn v.2.2.2.2.2.2.2.2.2.1 v.2.2.2.2.2.2.2.2.2.2 (its (k - 1) q) e ∧ ∀ j, j < k → okk (hn s) c q j = true) (fun S => z - S.1.toNatClampNeg)
    (fun u => (∃ l, u = .inl l ∧ al (okk (hn s) c q) z = true) ∨ (∃ r : Int32 × (Nat → Int32) × (Nat → Int32) × (Nat → Int32) × (Nat → Int32) × Int32, u = .inr r ∧ r.1 = 0 ∧ ¬ al (okk (hn s) c q) z = true)) ⟨0, _, _, _, _, _, rfl, Nat.zero_le _, kk, fun j hj => absurd hj (Nat.not_lt_zero _)⟩ (fun S hI => ?_) (by dsimp only; omega) (fun u hX => ?_)
  · obtain ⟨k, P, L, F, A, sn, rfl, hk, ck, hno⟩ := hI
    dsimp +instances only
    rw [hz, nI_clamp (by omega)]
    by_cases h : k < z
    · have more : okk (hn s) c q k = true → ∀ j, j < k + 1 → okk (hn s) c q j = true := fun h j hj => by
        by_cases e : j = k
        · subst e; exact h
        · exact hno j (by omega)
      have bad : ¬ okk (hn s) c q k = true → ¬ al (okk (hn s) c q) z = true := fun h1 h2 => h1 (al_iff.mp h2 k h)
      have step : ∀ P' L' F' A' sn', CP P' v.2.1 v.2.2.1 v.2.2.2.1 L' F' A' v.2.2.2.2.2.2.2.1 sn' v.2.2.2.2.2.2.2.2.2.1 v.2.2.2.2.2.2.2.2.2.2 (its k q) e →
          (∃ u, ((fX4_numberAt n s (nI k) hn).bind (fun q5 => (if q5 = (-1 : Int32) then some (.inl ((nI k + (1 : Int32)), P', L', F', A', sn')) else ((fX2_pathOf n (nI c) P').bind (fun q8 => (if q5 = q8 then some (.inl ((nI k + (1 : Int32)), P', L', F', A', sn')) else some (.inr (.inr ((0 : Int32), P', L', F', A', sn')))))))) : Option ((Int32 × (Nat → Int32) × (Nat → Int32) × (Nat → Int32) × (Nat → Int32) × Int32) ⊕ ((Int32 × (Nat → Int32) × (Nat → Int32) × (Nat → Int32) × (Nat → Int32) × Int32) ⊕ (Int32 × (Nat → Int32) × (Nat → Int32) × (Nat → Int32) × (Nat → Int32) × Int32)))) = some (.inr u) ∧ ((∃ l, u = .inl l ∧ al (okk (hn s) c q) z = true) ∨ (∃ r : Int32 × (Nat → Int32) × (Nat → Int32) × (Nat → Int32) × (Nat → Int32) × Int32, u = .inr r ∧ r.1 = 0 ∧ ¬ al (okk (hn s) c q) z = true))) ∨
          (∃ s', ((fX4_numberAt n s (nI k) hn).bind (fun q5 => (if q5 = (-1 : Int32) then some (.inl ((nI k + (1 : Int32)), P', L', F', A', sn')) else ((fX2_pathOf n (nI c) P').bind (fun q8 => (if q5 = q8 then some (.inl ((nI k + (1 : Int32)), P', L', F', A', sn')) else some (.inr (.inr ((0 : Int32), P', L', F', A', sn')))))))) : Option ((Int32 × (Nat → Int32) × (Nat → Int32) × (Nat → Int32) × (Nat → Int32) × Int32) ⊕ ((Int32 × (Nat → Int32) × (Nat → Int32) × (Nat → Int32) × (Nat → Int32) × Int32) ⊕ (Int32 × (Nat → Int32) × (Nat → Int32) × (Nat → Int32) × (Nat → Int32) × Int32)))) = some (.inl s') ∧ (∃ k P L F A sn, s' = (nI k, P, L, F, A, sn) ∧ k ≤ z ∧ CP P v.2.1 v.2.2.1 v.2.2.2.1 L F A v.2.2.2.2.2.2.2.1 sn v.2.2.2.2.2.2.2.2.2.1 v.2.2.2.2.2.2.2.2.2.2 (its (k - 1) q) e ∧ ∀ j, j < k → okk (hn s) c q j = true) ∧ z - s'.1.toNatClampNeg < z - k) := by
        intro P' L' F' A' sn' ck'
        rw [e4_numberAt n (by omega), Option.bind_some, e2_pathOf n ck'.1 hc, nI_1]
        by_cases h1 : hn s k = -1
        · rw [if_pos h1]
          exact Or.inr ⟨_, rfl, ⟨k + 1, _, _, _, _, _, rfl, by omega, ck', more (by unfold okk; simp [h1])⟩, by dsimp only; rw [nI_clamp (by omega)]; omega⟩
        · rw [if_neg h1, Option.bind_some]
          by_cases h2 : hn s k = nI (its k q (49 + c))
          · rw [if_pos h2]
            exact Or.inr ⟨_, rfl, ⟨k + 1, _, _, _, _, _, rfl, by omega, ck', more (by unfold okk; simp [h2])⟩, by dsimp only; rw [nI_clamp (by omega)]; omega⟩
          · rw [if_neg h2]
            exact Or.inl ⟨_, rfl, Or.inr ⟨_, rfl, rfl, bad (by unfold okk; simp [h1, h2])⟩⟩
      rw [if_neg (nI_ge h (by omega))]
      by_cases h0 : k = 0
      · subst h0
        rw [if_pos (by decide)]
        exact step P L F A sn ck
      · rw [if_neg (leK_F z_0 (by omega) (by omega))]
        obtain ⟨w, w1, w2⟩ := CP_pass1 n (by omega) ck hv (by omega)
        rw [show k - 1 + 1 = k by omega] at w2
        rw [w1, Option.bind_some]
        exact step _ _ _ _ _ w2
    · have : k = z := by omega
      subst this
      rw [if_pos (nI_le (Nat.le_refl _) (by omega))]
      exact Or.inl ⟨_, rfl, Or.inl ⟨_, rfl, al_iff.mpr hno⟩⟩
  · rcases hX with ⟨l, rfl, h⟩ | ⟨r, rfl, h1, h⟩
    · exact ⟨_, rfl, by rw [if_pos h]; rfl⟩
    · exact ⟨_, rfl, by rw [if_neg h]; exact h1⟩
theorem e7_wentSo (n : Nat) (hn2 : 200 ≤ n) {r aside lives treads sz nu : Nat → Int32} {nums : Nat → Int32} {q : Nat → Nat} {e : Nat → Int32} {b s c z : Nat} (hr : RM r q e) (hl : LV lives) (ht : TR treads) (hv : IV b q) (hb : b < 90000) (hs : s < 4) (hz : sz s = nI z) (h40 : z ≤ 40) (hc : c < 36) (hnu : ∀ i, i < 40 → nu (40 * s + i) = nums i) :
    ∃ u, fX7_wentSo n (nI s) (nI c) r aside lives treads sz nu = some u ∧ (u.1 = if al (okk nums c q) z = true then nI 1 else nI 0) ∧ RM u.2.1 q e := by
  obtain ⟨a, a1, a2⟩ := e7_copyRow n hn2 aside r
  have hvs : vi (nI s) 4 := vi_N hs (by decide)
  have hc1 : (1 : Int32).toNatClampNeg = 1 := by decide
  unfold fX7_wentSo
  rw [a1, Option.bind_some]
  refine lpm (fun S => ∃ f k R, S = (nI f, nI k, R) ∧ k ≤ z ∧ ((f = 1 ∧ RM R (its k q) e ∧ ∀ j, j < k → okk nums c q j = true) ∨ (f = 0 ∧ ¬ al (okk nums c q) z = true))) (fun S => 2 * (z - S.2.1.toNatClampNeg) + S.1.toNatClampNeg) (fun u => u.1 = if al (okk nums c q) z = true then nI 1 else nI 0) ⟨1, 0, r, rfl, Nat.zero_le _, Or.inl ⟨rfl, hr, fun j hj => absurd hj (Nat.not_lt_zero _)⟩⟩ (fun S hI => ?_) (by dsimp only; rw [nI_clamp (by omega), nI_clamp (by omega)]; omega) (fun u hX => ?_)
  · obtain ⟨f, k, R, rfl, hk, hf⟩ := hI
    dsimp +instances only
    rw [if_pos hvs, nI_clamp (show s < 2 ^ 31 by omega), hz]
    by_cases h : k < z
    · rw [if_neg (nI_ge h (by omega))]
      rcases hf with ⟨rfl, hR, hno⟩ | ⟨rfl, hbad⟩
      · have hvk : vi (nI (40 * s + k)) 160 := vi_N (by omega) (by decide)
        have hvc : vi (nI (49 + c)) 117 := vi_N (by omega) (by decide)
        have more : okk nums c q k = true → ∀ j, j < k + 1 → okk nums c q j = true := fun h j hj => by
          by_cases e : j = k
          · subst e; exact h
          · exact hno j (by omega)
        have bad : ¬ okk nums c q k = true → ¬ al (okk nums c q) z = true := fun h1 h2 => h1 (al_iff.mp h2 k h)
        obtain ⟨R', r1, r2⟩ := e7_season n (by omega) hR hl ht (its_k hv k).1 (by omega)
        have hR49 := hR.at (49 + c) (by omega) (by omega)
        rw [if_neg (by decide), z_40, pk_mul, nI_add, r1]
        simp only [if_pos hvk, nI_clamp (show 40 * s + k < 2 ^ 31 by omega), hnu k (by omega), z_49, nI_add, if_pos hvc, nI_clamp (show 49 + c < 2 ^ 31 by omega), hR49, Option.bind_some]
        rw [nI_1]
        by_cases h1 : nums k = -1
        · rw [if_pos h1]
          exact Or.inr ⟨_, rfl, ⟨1, k + 1, _, rfl, by omega, Or.inl ⟨rfl, r2, more (by unfold okk; simp [h1])⟩⟩, by dsimp only; rw [nI_clamp (by omega), nI_clamp (by omega), nI_clamp (by omega)]; omega⟩
        · rw [if_neg h1]
          by_cases h2 : nums k = nI (its k q (49 + c))
          · rw [if_pos h2]
            exact Or.inr ⟨_, rfl, ⟨1, k + 1, _, rfl, by omega, Or.inl ⟨rfl, r2, more (by unfold okk; simp [h2])⟩⟩, by dsimp only; rw [nI_clamp (by omega), nI_clamp (by omega), nI_clamp (by omega)]; omega⟩
          · rw [if_neg h2]
            exact Or.inr ⟨_, rfl, ⟨0, k + 1, _, rfl, by omega, Or.inr ⟨rfl, bad (by unfold okk; simp [h1, h2])⟩⟩, by dsimp only; rw [show (0 : Int32).toNatClampNeg = 0 from by decide, nI_clamp (by omega), nI_clamp (by omega)]; omega⟩
      · rw [if_pos (by rfl)]
        exact Or.inl ⟨_, rfl, by rw [if_neg hbad]⟩
    · have : k = z := by omega
      subst this
      rw [if_pos (nI_le (Nat.le_refl _) (by omega))]
      rcases hf with ⟨rfl, hR, hno⟩ | ⟨rfl, hbad⟩
      · exact Or.inl ⟨_, rfl, by rw [if_pos (al_iff.mpr hno)]⟩
      · exact Or.inl ⟨_, rfl, by rw [if_neg hbad]⟩
  · obtain ⟨d, d1, d2⟩ := e7_copyRow n hn2 u.2.2 a
    have h01 : u.1 = 0 ∨ u.1 = 1 := by
      rw [hX]
      by_cases h : al (okk nums c q) z = true
      · right; rw [if_pos h]; rfl
      · left; rw [if_neg h]; rfl
    rw [d1, Option.bind_some, if_pos h01]
    exact ⟨_, rfl, hX, hr.eqv fun i hi => (d2 i hi).trans (a2 i hi)⟩
