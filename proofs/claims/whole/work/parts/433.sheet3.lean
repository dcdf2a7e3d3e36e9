/-! copying a row into another -/
theorem e4_has (n : Nat) {s f m z : Nat} {hs : Nat → Int32} (hz : hs s = nI z) (h40 : z ≤ 40) (hf : f < 2 ^ 31) (hm : m < 2 ^ 31) : fX4_has n s (nI f) (nI m) hs = some (if f + m ≤ z then nI 1 else nI 0) := by
  unfold fX4_has
  rw [if_neg (nI_pos hf), if_neg (nI_pos hm), hz]
  by_cases h1 : f ≤ z
  · rw [if_neg (nI_nlt h1 (by omega)), pk_sub h1]
    by_cases h2 : f + m ≤ z
    · rw [if_neg (nI_nlt (by omega) (by omega)), if_pos h2]; rfl
    · rw [if_pos (nI_lt (by omega) hm), if_neg h2]; rfl
  · rw [if_pos (nI_lt (by omega) hf), if_neg (by omega)]; rfl
theorem e4_hasB (n : Nat) {s : Nat} {a m : Int32} {hs : Nat → Int32} (h : a < 0 ∨ m < 0) : fX4_has n s a m hs = some (nI 0) := by
  unfold fX4_has
  by_cases h1 : a < 0
  · rw [if_pos h1]; rfl
  · rw [if_neg h1, if_pos (h.resolve_left h1)]; rfl
theorem l_add {a b : Nat} : lN a + lN b = lN (a + b) := (Int64.ofNat_add a b).symm
theorem op_copy (n : Nat) (hn : 100 ≤ n) {told found hb hs wd sz nu mo : Nat → Int32} {hN : Nat → Nat → Int32} (hT : XT told found) (hH : XH hN hb hs wd sz nu) (a1 a2 a3 a4 a5 : Int32) :
    ∃ x y, fX6_copy n a1 a2 a3 a4 a5 hN hb hs told = some x ∧ fX7_copy n a1 a2 a3 a4 a5 found wd sz nu mo = some y ∧ x.1 = y.1 ∧ XH x.2.1 hb hs wd sz y.2.2.1 ∧ XT x.2.2 y.2.1 := by
  obtain ⟨t', f', g1, g2, g3⟩ := fnd n hT 0 (by decide) z_0 (L := -1000001) (by decide)
  obtain ⟨t2, f2, j1, j2, j3⟩ := fnd n hT 2 (by decide) z_2 (L := -1000003) (by decide)
  obtain ⟨t5, f5, i1, i2, i3⟩ := fnd n hT 5 (by decide) z_5 (L := -1000006) (by decide)
  rcases shl n hH a1 with ⟨s, hs4, rfl, s6, s7, hms⟩ | ⟨s6, s7, -⟩
  · rcases shl n hH a3 with ⟨t, ht4, rfl, u6, u7, hmt⟩ | ⟨u6, u7, -⟩
    · have hvs : vi (nI s) 4 := vi_N hs4 (by decide)
      have hcs := nI_clamp (show s < 2 ^ 31 by omega)
      have hvt : vi (nI t) 4 := vi_N ht4 (by decide)
      have hct := nI_clamp (show t < 2 ^ 31 by omega)
      obtain ⟨k1, k2, ⟨z, hz40, hz⟩, k4⟩ := hH s hs4
      obtain ⟨l1, l2, ⟨y, hy40, hy⟩, l4⟩ := hH t ht4
      rcases hms with ⟨m0, m6, -⟩ | ⟨m0, m6, -⟩
      · have hw0 : (wd s = 0) = True := eq_true (k1.trans m0)
        simp only [fX6_copy, fX7_copy, s6, s7, u6, u7, m6, if_pos hvs, hcs, hw0, i1, i2, Option.bind_some, Option.elim_some, Option.elim_none, t10, t00, if_true, if_false]
        exact ⟨_, _, rfl, rfl, rfl, hH, i3⟩
      · have hw0 : (wd s = 0) = False := eq_false (by rw [k1]; exact m0)
        rcases hmt with ⟨n0, n6, -⟩ | ⟨n0, n6, -⟩
        · have hv0 : (wd t = 0) = True := eq_true (l1.trans n0)
          simp only [fX6_copy, fX7_copy, s6, s7, u6, u7, m6, n6, if_pos hvs, hcs, if_pos hvt, hct, hw0, hv0, i1, i2, Option.bind_some, Option.elim_some, Option.elim_none, t10, t00, if_true, if_false]
          exact ⟨_, _, rfl, rfl, rfl, hH, i3⟩
        · have hv0 : (wd t = 0) = False := eq_false (by rw [l1]; exact n0)
          by_cases hww : hb s = hb t
          · have hww' : wd s = wd t := by rw [k1, l1]; exact hww
            rcases i32_cases a2 with h2 | ⟨f, hf, rfl⟩
            · simp only [fX6_copy, fX7_copy, s6, s7, u6, u7, m6, n6, if_pos hvs, hcs, if_pos hvt, hct, hw0, hv0, if_pos hww, if_pos hww', if_pos h2, e4_hasB n (m := a5) (Or.inl h2), g1, g2, Option.bind_some, Option.elim_some, Option.elim_none, t10, t00, if_true, if_false]
              exact ⟨_, _, rfl, rfl, rfl, hH, g3⟩
            · have hf0 : (nI f < 0) = False := eq_false (nI_pos hf)
              rcases i32_cases a5 with h5 | ⟨m, hm, rfl⟩
              · have hb5 : fX4_has n s (nI f) a5 hs = some (nI 0) := e4_hasB n (Or.inr h5)
                by_cases h4 : a4 < 0
                · simp only [fX6_copy, fX7_copy, s6, s7, u6, u7, m6, n6, if_pos hvs, hcs, if_pos hvt, hct, hw0, hv0, if_pos hww, if_pos hww', hf0, if_pos h4, hb5, g1, g2, Option.bind_some, Option.elim_some, Option.elim_none, t10, t00, if_true, if_false]
                  exact ⟨_, _, rfl, rfl, rfl, hH, g3⟩
                · simp only [fX6_copy, fX7_copy, s6, s7, u6, u7, m6, n6, if_pos hvs, hcs, if_pos hvt, hct, hw0, hv0, if_pos hww, if_pos hww', hf0, if_neg h4, if_pos h5, hb5, g1, g2, Option.bind_some, Option.elim_some, Option.elim_none, t10, t00, if_true, if_false]
                  exact ⟨_, _, rfl, rfl, rfl, hH, g3⟩
              · have hm0 : (nI m < 0) = False := eq_false (nI_pos hm)
                have hhs := e4_has n hz hz40 hf hm
                rcases i32_cases a4 with h4 | ⟨g, hg, rfl⟩
                · have hb4 : fX4_has n t a4 (nI m) hs = some (nI 0) := e4_hasB n (Or.inl h4)
                  by_cases c1 : f + m ≤ z
                  · rw [if_pos c1] at hhs
                    simp only [fX6_copy, fX7_copy, s6, s7, u6, u7, m6, n6, if_pos hvs, hcs, if_pos hvt, hct, hw0, hv0, if_pos hww, if_pos hww', hf0, if_pos h4, hhs, hb4, g1, g2, Option.bind_some, Option.elim_some, Option.elim_none, t10, t00, if_true, if_false]
                    exact ⟨_, _, rfl, rfl, rfl, hH, g3⟩
                  · rw [if_neg c1] at hhs
                    simp only [fX6_copy, fX7_copy, s6, s7, u6, u7, m6, n6, if_pos hvs, hcs, if_pos hvt, hct, hw0, hv0, if_pos hww, if_pos hww', hf0, if_pos h4, hhs, g1, g2, Option.bind_some, Option.elim_some, Option.elim_none, t10, t00, if_true, if_false]
                    exact ⟨_, _, rfl, rfl, rfl, hH, g3⟩
                · have hg0 : (nI g < 0) = False := eq_false (nI_pos hg)
                  have hht := e4_has n hy hy40 hg hm
                  have ls : ((sz s).toInt64 < (nI f).toInt64 + (nI m).toInt64) = (z < f + m) := propext (by
                    rw [k2, hz, nI_l (show z < 2 ^ 31 by omega), nI_l hf, nI_l hm, l_add]; exact pk_lLT (by omega) (by omega))
                  have lt : ((nI g).toInt64 + (nI m).toInt64 ≤ (sz t).toInt64) = (g + m ≤ y) := propext (by
                    rw [l2, hy, nI_l hg, nI_l hm, nI_l (show y < 2 ^ 31 by omega), l_add]; exact pk_lLE (by omega) (by omega))
                  by_cases c1 : f + m ≤ z
                  · rw [if_pos c1] at hhs
                    have c1' : (z < f + m) = False := eq_false (by omega)
                    by_cases c2 : g + m ≤ y
                    · rw [if_pos c2] at hht
                      have c2' : (g + m ≤ y) = True := eq_true c2
                      have htk : fX4_take n t s (nI g) (nI f) (nI m) hN hs = some (updN hN t (va_cpy (hN s) (hN t) f g m)) := by
                        unfold fX4_take
                        rw [hht, Option.bind_some, if_neg (by decide), hhs, Option.bind_some, if_neg (by decide), if_pos (nI_pos hf), if_pos (nI_pos hg), if_pos (nI_pos hm), nI_clamp hf, nI_clamp hg, nI_clamp hm, if_pos (by omega), if_pos (by omega)]
                      have hL1 : ∃ v, lp (fun (s33 : Int32 × (Nat → Int32)) => ((if (nI m) ≤ s33.1 then some (.inr (s33.1, s33.2)) else (if vi ((((40 : Int32) * (nI s)) + (nI f)) + s33.1) 160 then (if vi s33.1 40 then some (.inl ((s33.1 + (1 : Int32)), (upd s33.2 s33.1.toNatClampNeg (nu ((((40 : Int32) * (nI s)) + (nI f)) + s33.1).toNatClampNeg)))) else none) else none)) : Option ((Int32 × (Nat → Int32)) ⊕ (Int32 × (Nat → Int32))))) n ((0 : Int32), mo) = some v ∧ ∀ i, i < m → v.2 i = hN s (f + i) := by
                        refine lp_ex (fun k S => ∃ F, S = (nI k, F) ∧ ∀ i, i < k → F i = hN s (f + i)) m (fun (v : Int32 × (Nat → Int32)) => ∀ i, i < m → v.2 i = hN s (f + i)) ⟨_, rfl, fun i hi => absurd hi (Nat.not_lt_zero _)⟩ (fun k S hk hI => ?_) (fun S hI => ?_) (by omega)
                        · obtain ⟨F, rfl, hF⟩ := hI
                          dsimp +instances only
                          rw [if_neg (nI_ge hk (by omega)), z_40, pk_mul, nI_add, nI_add, if_pos (vi_N (by omega) (by decide)), if_pos (vi_N (by omega) (by decide)), nI_1]
                          refine ⟨_, rfl, _, rfl, fun i hi => ?_⟩
                          rw [nI_clamp (by omega), nI_clamp (by omega)]
                          by_cases e : i = k
                          · subst e; rw [upd_T rfl, Nat.add_assoc]; exact k4 (f + i) (by omega)
                          · rw [upd_F (by omega)]; exact hF i (by omega)
                        · obtain ⟨F, rfl, hF⟩ := hI
                          dsimp +instances only
                          rw [if_pos (nI_le (Nat.le_refl _) (by omega))]
                          exact ⟨_, rfl, hF⟩
                      obtain ⟨v, v1, v2⟩ := hL1
                      have hL2 : ∃ w, lp (fun (s38 : Int32 × (Nat → Int32)) => ((if (nI m) ≤ s38.1 then some (.inr (s38.1, s38.2)) else (if vi s38.1 40 then (if vi ((((40 : Int32) * (nI t)) + (nI g)) + s38.1) 160 then some (.inl ((s38.1 + (1 : Int32)), (upd s38.2 ((((40 : Int32) * (nI t)) + (nI g)) + s38.1).toNatClampNeg (v.2 s38.1.toNatClampNeg)))) else none) else none)) : Option ((Int32 × (Nat → Int32)) ⊕ (Int32 × (Nat → Int32))))) n ((0 : Int32), nu) = some w ∧ (∀ i, i < m → w.2 (40 * t + g + i) = v.2 i) ∧ ∀ j, (j < 40 * t + g ∨ 40 * t + g + m ≤ j) → w.2 j = nu j := by
                        refine lp_ex (fun k S => ∃ F, S = (nI k, F) ∧ (∀ i, i < k → F (40 * t + g + i) = v.2 i) ∧ ∀ j, (j < 40 * t + g ∨ 40 * t + g + k ≤ j) → F j = nu j) m (fun (w : Int32 × (Nat → Int32)) => (∀ i, i < m → w.2 (40 * t + g + i) = v.2 i) ∧ ∀ j, (j < 40 * t + g ∨ 40 * t + g + m ≤ j) → w.2 j = nu j) ⟨_, rfl, fun i hi => absurd hi (Nat.not_lt_zero _), fun _ _ => rfl⟩ (fun k S hk hI => ?_) (fun S hI => ?_) (by omega)
                        · obtain ⟨F, rfl, hF, hF2⟩ := hI
                          dsimp +instances only
                          rw [if_neg (nI_ge hk (by omega)), z_40, pk_mul, nI_add, nI_add, if_pos (vi_N (by omega) (by decide)), if_pos (vi_N (by omega) (by decide)), nI_1]
                          refine ⟨_, rfl, _, rfl, fun i hi => ?_, fun j hj => ?_⟩
                          · rw [nI_clamp (by omega), nI_clamp (by omega)]
                            by_cases e : i = k
                            · subst e; rw [upd_T rfl]
                            · rw [upd_F (by omega)]; exact hF i (by omega)
                          · rw [nI_clamp (by omega), upd_F (by omega)]; exact hF2 j (by omega)
                        · obtain ⟨F, rfl, hF, hF2⟩ := hI
                          dsimp +instances only
                          rw [if_pos (nI_le (Nat.le_refl _) (by omega))]
                          exact ⟨_, rfl, hF, hF2⟩
                      obtain ⟨w, w1, w2, w3⟩ := hL2
                      simp only [fX6_copy, fX7_copy, s6, s7, u6, u7, m6, n6, if_pos hvs, hcs, if_pos hvt, hct, hw0, hv0, if_pos hww, if_pos hww', hf0, hg0, hm0, hhs, hht, ls, lt, c1', c2', htk, v1, w1, Option.bind_some, Option.elim_some, Option.elim_none, t10, t00, if_true, if_false]
                      refine ⟨_, _, rfl, rfl, rfl, hH.put ht4 l1 l2 ⟨y, hy40, hy⟩ (fun i hi => ?_) (fun r hr hne => ⟨rfl, rfl, rfl, rfl, fun i hi => ⟨w3 _ (by omega), by dsimp only; rw [updN_F (by omega)]⟩⟩), hT⟩
                      dsimp only
                      rw [updN_T rfl]
                      by_cases c3 : g ≤ i ∧ i < g + m
                      · rw [pk_cpy_in c3.1 c3.2, ← v2 (i - g) (by omega), ← w2 (i - g) (by omega), show 40 * t + g + (i - g) = 40 * t + i from by omega]
                      · rw [pk_cpy_out (by omega), w3 _ (by omega)]; exact l4 i hi
                    · rw [if_neg c2] at hht
                      have c2' : (g + m ≤ y) = False := eq_false c2
                      simp only [fX6_copy, fX7_copy, s6, s7, u6, u7, m6, n6, if_pos hvs, hcs, if_pos hvt, hct, hw0, hv0, if_pos hww, if_pos hww', hf0, hg0, hm0, hhs, hht, ls, lt, c1', c2', g1, g2, Option.bind_some, Option.elim_some, Option.elim_none, t10, t00, if_true, if_false]
                      exact ⟨_, _, rfl, rfl, rfl, hH, g3⟩
                  · rw [if_neg c1] at hhs
                    have c1' : (z < f + m) = True := eq_true (by omega)
                    simp only [fX6_copy, fX7_copy, s6, s7, u6, u7, m6, n6, if_pos hvs, hcs, if_pos hvt, hct, hw0, hv0, if_pos hww, if_pos hww', hf0, hg0, hm0, hhs, ls, c1', g1, g2, Option.bind_some, Option.elim_some, Option.elim_none, t10, t00, if_true, if_false]
                    exact ⟨_, _, rfl, rfl, rfl, hH, g3⟩
          · have hww' : ¬ wd s = wd t := by rw [k1, l1]; exact hww
            simp only [fX6_copy, fX7_copy, s6, s7, u6, u7, m6, n6, if_pos hvs, hcs, if_pos hvt, hct, hw0, hv0, if_neg hww, if_neg hww', j1, j2, Option.bind_some, Option.elim_some, Option.elim_none, t10, t00, if_true, if_false]
            exact ⟨_, _, rfl, rfl, rfl, hH, j3⟩
    · simp only [fX6_copy, fX7_copy, s6, s7, u6, u7, g1, g2, Option.bind_some, Option.elim_some, Option.elim_none, t10, t00, if_true, if_false]
      exact ⟨_, _, rfl, rfl, rfl, hH, g3⟩
  · rcases shl n hH a3 with ⟨t, ht4, rfl, u6, u7, hmt⟩ | ⟨u6, u7, -⟩
    · simp only [fX6_copy, fX7_copy, s6, s7, u6, u7, g1, g2, Option.bind_some, Option.elim_some, Option.elim_none, t10, t00, if_true, if_false]
      exact ⟨_, _, rfl, rfl, rfl, hH, g3⟩
    · simp only [fX6_copy, fX7_copy, s6, s7, u6, u7, g1, g2, Option.bind_some, Option.elim_some, Option.elim_none, t10, t00, if_true, if_false]
      exact ⟨_, _, rfl, rfl, rfl, hH, g3⟩
