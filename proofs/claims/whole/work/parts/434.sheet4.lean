/-! a row that becomes paths; a row that is a way -/
theorem op_load (n : Nat) (hn : 100 ≤ n) {p0_paths : Nat → Int32} {p0_water : Int64} {p0_wall : Int64} {p0_kind : Nat → Int32} {p0_place : Nat → Int32} {p0_facing : Nat → Int32} {p0_age : Nat → Int32} {p0_seeds : Int32} {p0_season : Int32} {p0_z : Int32} {p0_spots : Nat → Int32} {r told found hb hs wd sz nu : Nat → Int32} {hN : Nat → Nat → Int32} {b : Nat} (hK : XK p0_paths p0_water p0_wall p0_kind p0_place p0_facing p0_age p0_seeds p0_season p0_z p0_spots r b) (hT : XT told found) (hH : XH hN hb hs wd sz nu) (a1 : Int32) :
    ∃ x y, fX6_load n a1 p0_paths p0_water p0_wall hN hb hs told = some x ∧ fX7_load n a1 r found wd sz nu = some y ∧ x.1 = y.1 ∧ XK x.2.1 p0_water p0_wall p0_kind p0_place p0_facing p0_age p0_seeds p0_season p0_z p0_spots y.2.1 b ∧ XT x.2.2 y.2.2 := by
  obtain ⟨t', f', g1, g2, g3⟩ := fnd n hT 0 (by decide) z_0 (L := -1000001) (by decide)
  obtain ⟨t5, f5, i1, i2, i3⟩ := fnd n hT 5 (by decide) z_5 (L := -1000006) (by decide)
  rcases shl n hH a1 with ⟨s, hs4, rfl, s6, s7, ⟨m0, m6, m7⟩ | ⟨m0, m6, m7⟩⟩ | ⟨s6, s7, m7⟩
  · simp only [fX6_load, fX7_load, s6, m6, m7, tL6, i1, i2, Option.bind_some, Option.elim_some, Option.elim_none, t10, t00, if_true, if_false]
    exact ⟨_, _, rfl, rfl, rfl, hK, i3⟩
  · have hvs : vi (nI s) 4 := vi_N hs4 (by decide)
    have hcs := nI_clamp (show s < 2 ^ 31 by omega)
    obtain ⟨-, k2, ⟨z, hz40, hz⟩, k4⟩ := hH s hs4
    obtain ⟨q, e, kk, hr, hv, hsp⟩ := hK
    obtain ⟨v, w, v1, w1, h⟩ := lpp (b := (fun (s10 : Int32 × Int32 × (Nat → Int32)) => ((if (36 : Int32) ≤ s10.2.1 then some (.inr (.inl (s10.1, s10.2.1, s10.2.2))) else (if (hs s) ≤ s10.2.1 then some (.inr (.inl (s10.1, s10.2.1, s10.2.2))) else ((fX4_numberAt n s s10.2.1 hN).bind (fun q14 => ((fX6_within n q14 (0 : Int32) (99 : Int32)).bind (fun q16 => (if q16 = 0 then some (.inr (.inr (s10.1, s10.2.2, told))) else ((fX2_becomePath n s10.2.1 q14 s10.2.2 p0_water p0_wall).bind (fun q19 => some (.inl ((s10.1 + (1 : Int32)), (s10.2.1 + (1 : Int32)), q19))))))))))) : Option ((Int32 × Int32 × (Nat → Int32)) ⊕ ((Int32 × Int32 × (Nat → Int32)) ⊕ (Int32 × (Nat → Int32) × (Nat → Int32))))))) (c := (fun (s4 : Int32 × (Nat → Int32)) => ((if vi (nI s) 4 then (if (sz (nI s).toNatClampNeg) ≤ s4.1 then some (.inr (s4.1, s4.2)) else ((fX7_isCell n s4.1).bind (fun q8 => (if q8 = 0 then some (.inr (s4.1, s4.2)) else (if vi (((40 : Int32) * (nI s)) + s4.1) 160 then ((fX7_isPath n (nu (((40 : Int32) * (nI s)) + s4.1).toNatClampNeg)).bind (fun q12 => (if q12 = 0 then some (.inr (s4.1, s4.2)) else ((fX7_isGrass n s4.1 s4.2).bind (fun q15 => (if q15 = 0 then (if vi ((49 : Int32) + s4.1) 117 then (if vi ((49 : Int32) + s4.1) 117 then some (.inl ((s4.1 + (1 : Int32)), (upd s4.2 ((49 : Int32) + s4.1).toNatClampNeg (s4.2 ((49 : Int32) + s4.1).toNatClampNeg)))) else none) else none) else (if vi (((40 : Int32) * (nI s)) + s4.1) 160 then (if vi ((49 : Int32) + s4.1) 117 then some (.inl ((s4.1 + (1 : Int32)), (upd s4.2 ((49 : Int32) + s4.1).toNatClampNeg (nu (((40 : Int32) * (nI s)) + s4.1).toNatClampNeg)))) else none) else none))))))) else none))))) else none) : Option ((Int32 × (Nat → Int32)) ⊕ (Int32 × (Nat → Int32))))))
      (fun S T => ∃ k P R q, S = (nI k, nI k, P) ∧ T = (nI k, R) ∧ k ≤ 36 ∧ CP P p0_water p0_wall p0_kind p0_place p0_facing p0_age p0_seeds p0_season p0_z p0_spots q e ∧ RM R q e ∧ IV b q ∧ SPT e (q 1)) (fun S => 36 - S.1.toNatClampNeg)
      (fun v w => ∃ k P R q, (v = .inl (nI k, nI k, P) ∨ v = .inr (nI k, P, told)) ∧ w = (nI k, R) ∧ CP P p0_water p0_wall p0_kind p0_place p0_facing p0_age p0_seeds p0_season p0_z p0_spots q e ∧ RM R q e ∧ IV b q ∧ SPT e (q 1)) (by
        rintro S T ⟨k, P, R, q, rfl, rfl, hk, kk, hr, hv, hsp⟩
        dsimp +instances only
        simp only [if_pos hvs, hcs, k2, hz]
        by_cases h36 : k < 36
        · rw [if_neg (Kle_F z_36 h36 (by decide))]
          by_cases hkz : k < z
          · rw [if_neg (nI_ge hkz (by omega)), e4_numberAt n (by omega), Option.bind_some, e7_isCell n h36, Option.bind_some, if_neg (show ¬ nI z ≤ nI k from nI_ge hkz (by omega)), if_neg (show ¬ nI 1 = 0 from by decide)]
            have hvk : vi (nI (40 * s + k)) 160 := vi_N (by omega) (by decide)
            have hck := nI_clamp (show 40 * s + k < 2 ^ 31 by omega)
            have hmu : (40 : Int32) * nI s + nI k = nI (40 * s + k) := by rw [z_40, pk_mul, nI_add]
            have hvc : vi (nI (49 + k)) 117 := vi_N (by omega) (by decide)
            have hcc := nI_clamp (show 49 + k < 2 ^ 31 by omega)
            have hmp : (49 : Int32) + nI k = nI (49 + k) := by rw [z_49, nI_add]
            simp only [hmu, if_pos hvk, hck, k4 k (by omega), hmp, if_pos hvc, hcc]
            rcases pt n (hN s k) with ⟨u, hu, hue, p6, p7⟩ | ⟨-, p6, p7⟩
            · rw [p6, p7, Option.bind_some, Option.bind_some, if_neg (show ¬ nI 1 = 0 from by decide), if_neg (show ¬ nI 1 = 0 from by decide), hue, e2_becomePath n kk.2.1 kk.2.2.1 hv h36, Option.bind_some, e7_isGrass n hr hv h36, Option.bind_some, nI_1]
              by_cases hg : q (13 + k) = 0
              · rw [if_pos hg, if_neg (b01_T hg)]
                refine Or.inr ⟨_, _, rfl, rfl, ⟨k + 1, _, _, _, rfl, rfl, by omega, ?_, hr.up (49 + k) u (by omega), hv.path h36 hu (fun h => absurd hg h), by rw [upq_F (by omega)]; exact hsp⟩, by dsimp only; rw [nI_clamp (by omega), nI_clamp (by omega)]; omega⟩
                obtain ⟨c1, c2, c3, c4, c5, c6, c7, c8, c9, c10, c11⟩ := kk
                exact ⟨c1.up k u, c2.skip _ _ (by omega), c3.skip _ _ (by omega), c4.eq fun s _ => upq_F (by omega), c5.eq fun s _ => upq_F (by omega), c6.eq fun s _ => upq_F (by omega), c7.eq fun s _ => upq_F (by omega), by rw [upq_F (by omega)]; exact c8, by rw [upq_F (by omega)]; exact c9, c10, c11⟩
              · rw [if_neg hg, if_pos (b01_F hg), upd_self]
                exact Or.inr ⟨_, _, rfl, rfl, ⟨k + 1, _, _, q, rfl, rfl, by omega, kk, hr, hv, hsp⟩, by dsimp only; rw [nI_clamp (by omega), nI_clamp (by omega)]; omega⟩
            · rw [p6, p7, Option.bind_some, Option.bind_some, if_pos (show nI 0 = 0 from rfl), if_pos (show nI 0 = 0 from rfl)]
              exact Or.inl ⟨_, _, rfl, rfl, k, P, R, q, Or.inr rfl, rfl, kk, hr, hv, hsp⟩
          · rw [if_pos (nI_le (by omega) (by omega)), if_pos (show nI z ≤ nI k from nI_le (by omega) (by omega))]
            exact Or.inl ⟨_, _, rfl, rfl, k, P, R, q, Or.inl rfl, rfl, kk, hr, hv, hsp⟩
        · have h36' : k = 36 := by omega
          subst h36'
          rw [if_pos (Kle_T z_36 (by decide) (by decide))]
          by_cases hkz : 36 < z
          · have hB : fX7_isCell n (nI 36) = some (nI 0) := e7_isCellB n (Or.inr (nI_le (Nat.le_refl _) (by decide)))
            rw [if_neg (nI_ge hkz (by omega)), hB, Option.bind_some, if_pos (show nI 0 = 0 from rfl)]
            exact Or.inl ⟨_, _, rfl, rfl, 36, P, R, q, Or.inl rfl, rfl, kk, hr, hv, hsp⟩
          · rw [if_pos (nI_le (by omega) (by decide))]
            exact Or.inl ⟨_, _, rfl, rfl, 36, P, R, q, Or.inl rfl, rfl, kk, hr, hv, hsp⟩) n ((0 : Int32), (0 : Int32), p0_paths) ((0 : Int32), r) ⟨0, _, _, q, rfl, rfl, by decide, kk, hr, hv, hsp⟩ (by dsimp only; omega)
    obtain ⟨k, P, R, q', hv', rfl, h1, h2, h3, h4⟩ := h
    rcases hv' with rfl | rfl
    · simp only [fX6_load, fX7_load, s6, m6, m7, v1, w1, Sum.elim_inl, Option.bind_some, Option.elim_some, Option.elim_none, t10, t00, if_true, if_false]
      exact ⟨_, _, rfl, rfl, rfl, ⟨q', e, h1, h2, h3, h4⟩, hT⟩
    · simp only [fX6_load, fX7_load, s6, m6, m7, v1, w1, Sum.elim_inr, Option.bind_some, Option.elim_some, Option.elim_none, t10, t00, if_true, if_false]
      exact ⟨_, _, rfl, rfl, rfl, ⟨q', e, h1, h2, h3, h4⟩, hT⟩
  · simp only [fX6_load, fX7_load, s6, m7, tL1, g1, g2, Option.bind_some, Option.elim_some, Option.elim_none, t10, t00, if_true, if_false]
    exact ⟨_, _, rfl, rfl, rfl, hK, g3⟩
/-- a number of the row is a cell with path, beside the one ahead -/
def icl (p : Nat → Bool) (v : Int32) : Prop := ∃ c, c < 36 ∧ v = nI c ∧ p c = true
def gj (p : Nat → Bool) (nums : Nat → Int32) (i : Nat) : Prop := ∃ c, c < 36 ∧ nums i = nI c ∧ p c = true ∧ (i = 0 ∨ ∃ d, d < 36 ∧ nums (i - 1) = nI d ∧ dst d c = 1)
theorem dst1 {c d : Nat} (hc : c < 36) (hd : d < 36) : dst d c = 1 ↔ nb4 (fun j => decide (j = d)) c = true := by
  rw [(t_dl d hd c hc).2.2.2, t_adj d hd c hc]
  constructor
  · rintro (h | h | h | h) <;> simp [h]
  · intro h
    simp only [Bool.or_eq_true, decide_eq_true_eq] at h
    rcases h with h | h | h | h
    · exact Or.inl h.symm
    · exact Or.inr (Or.inl h.symm)
    · exact Or.inr (Or.inr (Or.inl h.symm))
    · exact Or.inr (Or.inr (Or.inr h.symm))
theorem nI_inj36 {c d : Nat} (hc : c < 36) (hd : d < 36) (h : nI c = nI d) : c = d := (nI_eq (by omega) (by omega)).mp h
theorem e6_judgeL (n : Nat) (hn : 100 ≤ n) {hs told : Nat → Int32} {hN : Nat → Nat → Int32} (p : Nat → Bool) {s z : Nat} (hz : hs s = nI z) (hz40 : z ≤ 40) :
    ∃ u, lp (fun (s12 : Int64 × Int32) => ((if (hs s) ≤ s12.2 then some (.inr (.inl (s12.1, s12.2))) else ((fX4_numberAt n s s12.2 hN).bind (fun q15 => ((fX6_isCell n q15).bind (fun q17 => (if q17 = 0 then some (.inr (.inr (((1 : Int32) + s12.2), told))) else ((fX6_bit n q15).bind (fun q20 => (if (s12.1 &&& q20) = (0 : Int64) then some (.inr (.inr (((1 : Int32) + s12.2), told))) else ((fX6_bit n q15).bind (fun q23 => ((fX0_neighbours n q23).bind (fun q25 => some (.inl ((q25 &&& (sb p 36)), (s12.2 + (1 : Int32))))))))))))))))) : Option ((Int64 × Int32) ⊕ ((Int64 × Int32) ⊕ (Int32 × (Nat → Int32)))))) n (sb p 36, (0 : Int32)) = some u ∧ ((∃ l, u = .inl l ∧ ∀ j, j < z → gj p (hN s) j) ∨ (∃ k, u = .inr (nI (1 + k), told) ∧ k < z ∧ ¬ gj p (hN s) k ∧ ∀ j, j < k → gj p (hN s) j)) := by
  refine lp_ms (fun S => ∃ k X, S = (sb X 36, nI k) ∧ k ≤ z ∧ (∀ j, j < k → gj p (hN s) j) ∧ ∀ c, c < 36 → (X c = true ↔ p c = true ∧ (k = 0 ∨ ∃ d, d < 36 ∧ hN s (k - 1) = nI d ∧ dst d c = 1))) (fun S => z - S.2.toNatClampNeg) _ ?_ n _ ⟨0, p, rfl, Nat.zero_le _, fun j hj => absurd hj (Nat.not_lt_zero _), fun c _ => ⟨fun h => ⟨h, Or.inl rfl⟩, fun h => h.1⟩⟩ (by dsimp only; omega)
  rintro S ⟨k, X, rfl, hk, hno, hX⟩
  dsimp +instances only
  rw [hz, nI_clamp (by omega)]
  by_cases h : k < z
  · rw [if_neg (nI_ge h (by omega)), e4_numberAt n (by omega), Option.bind_some]
    rcases ce n (hN s k) with ⟨c, hc, hce, c6, c7⟩ | ⟨hd, c6, c7⟩
    · have hg : gj p (hN s) k ↔ X c = true := by
        rw [hX c hc]
        constructor
        · rintro ⟨c', hc', h1, h2, h3⟩
          have : c = c' := nI_inj36 hc hc' (hce.symm.trans h1)
          subst this; exact ⟨h2, h3⟩
        · rintro ⟨h1, h2⟩; exact ⟨c, hc, hce, h1, h2⟩
      rw [c6, Option.bind_some, if_neg (show ¬ nI 1 = 0 from by decide), hce, e_bit]
      simp only [Option.bind_some]
      by_cases hXc : X c = true
      · rw [if_neg (by rw [sb_test X hc, hXc]; decide), e_neighbours, Option.bind_some, nI_1]
        have e1 : nbS (bitL c) &&& sb p 36 = sb (fun i => p i && nb4 (fun j => decide (j = c)) i) 36 := by
          refine sb_of (by decide) fun i hi => ?_
          rw [sb_bit hc, bq_and, bq_nbs _ hi, bq_sb p (by decide)]
          by_cases h36 : i < 36
          · simp only [h36, decide_true, Bool.true_and]
            cases p i <;> cases nb4 (fun j => decide (j = c)) i <;> rfl
          · simp [h36]
        rw [e1]
        refine Or.inr ⟨_, rfl, ⟨k + 1, _, rfl, by omega, fun j hj => ?_, fun d hd => ?_⟩, by dsimp only; rw [nI_clamp (by omega)]; omega⟩
        · by_cases e : j = k
          · subst e; exact hg.mpr hXc
          · exact hno j (by omega)
        · rw [Bool.and_eq_true, ← dst1 hd hc, Nat.add_sub_cancel]
          constructor
          · rintro ⟨h1, h2⟩; exact ⟨h1, Or.inr ⟨c, hc, hce, h2⟩⟩
          · rintro ⟨h1, h2 | ⟨d', hd', h3, h4⟩⟩
            · exact absurd h2 (Nat.succ_ne_zero k)
            · have : c = d' := nI_inj36 hc hd' (hce.symm.trans h3)
              subst this; exact ⟨h1, h4⟩
      · rw [if_pos (by rw [sb_test X hc, bt_F hXc]), z_1, nI_add]
        exact Or.inl ⟨_, rfl, Or.inr ⟨k, rfl, h, fun h1 => hXc (hg.mp h1), hno⟩⟩
    · rw [c6, Option.bind_some, if_pos (show nI 0 = 0 from rfl), z_1, nI_add]
      refine Or.inl ⟨_, rfl, Or.inr ⟨k, rfl, h, ?_, hno⟩⟩
      rintro ⟨c, hc, h1, -⟩
      exact outN hd (Nat.zero_le c) (by omega) (by decide) h1
  · have : k = z := by omega
    subst this
    rw [if_pos (nI_le (Nat.le_refl _) (by omega))]
    exact Or.inl ⟨_, rfl, Or.inl ⟨_, rfl, hno⟩⟩
theorem e7_judgeL (n : Nat) (hn : 200 ≤ n) {r sz nu nums : Nat → Int32} {q : Nat → Nat} {e : Nat → Int32} {b s z : Nat} (hr : RM r q e) (hv : IV b q) (hs : s < 4) (hz : sz s = nI z) (hz40 : z ≤ 40) (hnu : ∀ i, i < 40 → nu (40 * s + i) = nums i) :
    ∃ u, lp (fun (s4 : Int32 × Int32) => ((if vi (nI s) 4 then (if (sz (nI s).toNatClampNeg) ≤ s4.1 then some (.inr (s4.1, s4.2)) else (if s4.2 = 0 then some (.inr (s4.1, s4.2)) else (if vi (((40 : Int32) * (nI s)) + s4.1) 160 then ((fX7_isCell n (nu (((40 : Int32) * (nI s)) + s4.1).toNatClampNeg)).bind (fun q10 => (if q10 = 0 then some (.inl ((s4.1 + (0 : Int32)), (0 : Int32))) else ((fX7_hasPath n (nu (((40 : Int32) * (nI s)) + s4.1).toNatClampNeg) r).bind (fun q13 => (if q13 = 0 then some (.inl ((s4.1 + (0 : Int32)), (0 : Int32))) else (if s4.1 = 0 then some (.inl ((s4.1 + (1 : Int32)), (1 : Int32))) else (if vi ((((40 : Int32) * (nI s)) + s4.1) - (1 : Int32)) 160 then ((fX7_apartOf n (nu ((((40 : Int32) * (nI s)) + s4.1) - (1 : Int32)).toNatClampNeg) (nu (((40 : Int32) * (nI s)) + s4.1).toNatClampNeg)).bind (fun q18 => (if q18 = (1 : Int32) then some (.inl ((s4.1 + (1 : Int32)), (1 : Int32))) else some (.inl ((s4.1 + (0 : Int32)), (0 : Int32)))))) else none)))))))) else none))) else none) : Option ((Int32 × Int32) ⊕ (Int32 × Int32)))) n ((0 : Int32), (1 : Int32)) = some u ∧ ∃ k f, u = (nI k, nI f) ∧ ((f = 1 ∧ k = z ∧ ∀ j, j < z → gj (hp q) nums j) ∨ (f = 0 ∧ k < z ∧ ¬ gj (hp q) nums k ∧ ∀ j, j < k → gj (hp q) nums j)) := by
  have hvs : vi (nI s) 4 := vi_N hs (by decide)
  have hc1 : (1 : Int32).toNatClampNeg = 1 := by decide
  have hc0 : (0 : Int32).toNatClampNeg = 0 := by decide
  refine lp_ms (fun S => ∃ k f, S = (nI k, nI f) ∧ k ≤ z ∧ (∀ j, j < k → gj (hp q) nums j) ∧ (f = 1 ∨ (f = 0 ∧ k < z ∧ ¬ gj (hp q) nums k))) (fun S => 2 * (z - S.1.toNatClampNeg) + S.2.toNatClampNeg) _ ?_ n _ ⟨0, 1, rfl, Nat.zero_le _, fun j hj => absurd hj (Nat.not_lt_zero _), Or.inl rfl⟩ (by dsimp only; omega)
  rintro S ⟨k, f, rfl, hk, hno, hf⟩
  dsimp +instances only
  rw [if_pos hvs, nI_clamp (show s < 2 ^ 31 by omega), hz, nI_clamp (show k < 2 ^ 31 by omega)]
  by_cases h : k < z
  · rw [if_neg (nI_ge h (by omega))]
    rcases hf with rfl | ⟨rfl, -, hbad⟩
    · have hvk : vi (nI (40 * s + k)) 160 := vi_N (by omega) (by decide)
      have hck := nI_clamp (show 40 * s + k < 2 ^ 31 by omega)
      have hmu : (40 : Int32) * nI s + nI k = nI (40 * s + k) := by rw [z_40, pk_mul, nI_add]
      have stop : ¬ gj (hp q) nums k → ∃ s', (some (.inl (nI k + (0 : Int32), (0 : Int32))) : Option ((Int32 × Int32) ⊕ (Int32 × Int32))) = some (.inl s') ∧ (∃ k f, s' = (nI k, nI f) ∧ k ≤ z ∧ (∀ j, j < k → gj (hp q) nums j) ∧ (f = 1 ∨ (f = 0 ∧ k < z ∧ ¬ gj (hp q) nums k))) ∧ 2 * (z - s'.1.toNatClampNeg) + s'.2.toNatClampNeg < 2 * (z - k) + (nI 1).toNatClampNeg := fun hb => by
        refine ⟨_, rfl, ⟨k, 0, by rw [z_0, nI_add]; rfl, hk, hno, Or.inr ⟨rfl, h, hb⟩⟩, ?_⟩
        dsimp only
        rw [z_0, nI_add, nI_clamp (by omega), nI_clamp (by omega), nI_clamp (by omega)]; omega
      have go : gj (hp q) nums k → ∃ s', (some (.inl (nI k + (1 : Int32), (1 : Int32))) : Option ((Int32 × Int32) ⊕ (Int32 × Int32))) = some (.inl s') ∧ (∃ k f, s' = (nI k, nI f) ∧ k ≤ z ∧ (∀ j, j < k → gj (hp q) nums j) ∧ (f = 1 ∨ (f = 0 ∧ k < z ∧ ¬ gj (hp q) nums k))) ∧ 2 * (z - s'.1.toNatClampNeg) + s'.2.toNatClampNeg < 2 * (z - k) + (nI 1).toNatClampNeg := fun hb => by
        refine ⟨_, rfl, ⟨k + 1, 1, by rw [nI_1]; rfl, by omega, fun j hj => ?_, Or.inl rfl⟩, ?_⟩
        · by_cases e : j = k
          · subst e; exact hb
          · exact hno j (by omega)
        · dsimp only
          rw [nI_1, nI_clamp (by omega), hc1, nI_clamp (by omega)]; omega
      refine Or.inr ?_
      rw [if_neg (show ¬ nI 1 = 0 from by decide)]
      simp only [hmu, if_pos hvk, hck, hnu k (by omega)]
      rcases ce n (nums k) with ⟨c, hc, hce, c6, c7⟩ | ⟨hd, c6, c7⟩
      · rw [c7, Option.bind_some, if_neg (show ¬ nI 1 = 0 from by decide), hce, e7_hasPath n hr hv hc, Option.bind_some]
        by_cases hp1 : hp q c = true
        · rw [if_neg (b01_T hp1)]
          by_cases h0 : k = 0
          · subst h0
            rw [if_pos (show nI 0 = 0 from rfl)]
            exact go ⟨c, hc, hce, hp1, Or.inl rfl⟩
          · have hv1 : vi (nI (40 * s + k - 1)) 160 := vi_N (by omega) (by decide)
            have hs1 : nI (40 * s + k) - (1 : Int32) = nI (40 * s + k - 1) := by rw [z_1, pk_sub (by omega)]
            rw [if_neg (nIneK z_0 h0 (by omega) (by decide)), hs1, if_pos hv1, nI_clamp (by omega), show 40 * s + k - 1 = 40 * s + (k - 1) from by omega, hnu (k - 1) (by omega)]
            obtain ⟨d, hd, hde, hdp, -⟩ := hno (k - 1) (by omega)
            have hdl := dst_lt hd hc
            rw [hde, e_apartOf n hd hc, Option.bind_some]
            by_cases h1 : dst d c = 1
            · rw [if_pos (by rw [h1]; rfl)]
              exact go ⟨c, hc, hce, hp1, Or.inr ⟨d, hd, hde, h1⟩⟩
            · rw [if_neg (nIneK z_1 h1 (by omega) (by decide))]
              refine stop ?_
              rintro ⟨c', hc', h2, -, h3 | ⟨d', hd', h4, h5⟩⟩
              · exact h0 h3
              · have e1 : c = c' := nI_inj36 hc hc' (hce.symm.trans h2)
                have e2 : d = d' := nI_inj36 hd hd' (hde.symm.trans h4)
                subst e1 e2; exact h1 h5
        · rw [if_pos (b01_F hp1)]
          refine stop ?_
          rintro ⟨c', hc', h2, h3, -⟩
          have e1 : c = c' := nI_inj36 hc hc' (hce.symm.trans h2)
          subst e1; exact hp1 h3
      · rw [c7, Option.bind_some, if_pos (show nI 0 = 0 from rfl)]
        refine stop ?_
        rintro ⟨c, hc, h1, -⟩
        exact outN hd (Nat.zero_le c) (by omega) (by decide) h1
    · rw [if_pos (show nI 0 = 0 from rfl)]
      exact Or.inl ⟨_, rfl, k, 0, rfl, Or.inr ⟨rfl, h, hbad, hno⟩⟩
  · have : k = z := by omega
    subst this
    rw [if_pos (nI_le (Nat.le_refl _) (by omega))]
    rcases hf with rfl | ⟨rfl, h1, -⟩
    · exact Or.inl ⟨_, rfl, k, 1, rfl, Or.inl ⟨rfl, rfl, hno⟩⟩
    · exact absurd h1 (Nat.lt_irrefl _)
theorem op_judge (n : Nat) (hn : 200 ≤ n) {p0_paths : Nat → Int32} {p0_water : Int64} {p0_wall : Int64} {p0_kind : Nat → Int32} {p0_place : Nat → Int32} {p0_facing : Nat → Int32} {p0_age : Nat → Int32} {p0_seeds : Int32} {p0_season : Int32} {p0_z : Int32} {p0_spots : Nat → Int32} {r told found hb hs wd sz nu : Nat → Int32} {hN : Nat → Nat → Int32} {b : Nat} (hK : XK p0_paths p0_water p0_wall p0_kind p0_place p0_facing p0_age p0_seeds p0_season p0_z p0_spots r b) (hT : XT told found) (hH : XH hN hb hs wd sz nu) (a1 : Int32) :
    ∃ x y, fX6_judge n a1 p0_paths hN hb hs told = some x ∧ fX7_judge n a1 r found wd sz nu = some y ∧ x.1 = y.1 ∧ XT x.2 y.2 := by
  obtain ⟨t', f', g1, g2, g3⟩ := fnd n hT 0 (by decide) z_0 (L := -1000001) (by decide)
  obtain ⟨t5, f5, i1, i2, i3⟩ := fnd n hT 5 (by decide) z_5 (L := -1000006) (by decide)
  rcases shl n hH a1 with ⟨s, hs4, rfl, s6, s7, ⟨m0, m6, m7⟩ | ⟨m0, m6, m7⟩⟩ | ⟨s6, s7, m7⟩
  · simp only [fX6_judge, fX7_judge, s6, m6, m7, tL6, i1, i2, Option.bind_some, Option.elim_some, Option.elim_none, t10, t00, if_true, if_false]
    exact ⟨_, _, rfl, rfl, rfl, i3⟩
  · obtain ⟨-, k2, ⟨z, hz40, hz⟩, k4⟩ := hH s hs4
    obtain ⟨q, e, kk, hr, hv, hsp⟩ := hK
    obtain ⟨u, u1, u2⟩ := e6_judgeL n (by omega) (hN := hN) (told := told) (hp q) hz hz40
    obtain ⟨w, w1, k, f, rfl, w2⟩ := e7_judgeL n hn hr hv hs4 (k2.trans hz) hz40 k4
    have hps := e2_pathSet n (by omega) kk.1 hv
    rcases u2 with ⟨l, rfl, h1⟩ | ⟨k', rfl, h1, h2, h3⟩
    · rcases w2 with ⟨rfl, rfl, h4⟩ | ⟨rfl, h4, h5, h6⟩
      · simp only [fX6_judge, fX7_judge, s6, m6, m7, hps, u1, w1, Sum.elim_inl, Option.bind_some, Option.elim_some, Option.elim_none, t10, t00, if_true, if_false]
        exact ⟨_, _, rfl, rfl, rfl, hT⟩
      · exact absurd (h1 k h4) h5
    · rcases w2 with ⟨rfl, rfl, h4⟩ | ⟨rfl, h4, h5, h6⟩
      · exact absurd (h4 k' h1) h2
      · have hkk : k = k' := by
          rcases Nat.lt_trichotomy k k' with h | h | h
          · exact absurd (h3 k h) h5
          · exact h
          · exact absurd (h6 k' h) h2
        subst hkk
        have h1k : (1 : Int32) + nI k = nI (1 + k) := by rw [z_1, nI_add]
        simp only [fX6_judge, fX7_judge, s6, m6, m7, hps, u1, w1, h1k, Sum.elim_inr, Option.bind_some, Option.elim_some, Option.elim_none, t10, t00, if_true, if_false]
        exact ⟨_, _, rfl, rfl, rfl, hT⟩
  · simp only [fX6_judge, fX7_judge, s6, m7, tL1, g1, g2, Option.bind_some, Option.elim_some, Option.elim_none, t10, t00, if_true, if_false]
    exact ⟨_, _, rfl, rfl, rfl, g3⟩
