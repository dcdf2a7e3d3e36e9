/-! a season -/
theorem grow_lo {q : Nat → Nat} {s i : Nat} (hs : s < 8) (hh : grHd q s < 36) (hi : i < 49) : grow q s i = q i := by
  unfold grow
  rw [upq_F (by omega), upq_F (by omega), upq_F (by omega), upq_F (by omega)]
theorem grHd_lt {b : Nat} {q : Nat → Nat} {s : Nat} (hv : IV b q) (hs : s < 8) : grHd q s < 36 := by
  have := (hv.2.2.2 s hs).2.1
  unfold grHd; split
  · rename_i h; exact h.1
  · exact this
theorem grTo_lt {b : Nat} {q : Nat → Nat} {s : Nat} (hv : IV b q) (hs : s < 8) : grTo q s < 4 := by
  have := turn_lt hv hs
  unfold grTo; split <;> omega
theorem IV_grow {b : Nat} {q : Nat → Nat} {s : Nat} (hv : IV b q) (hs : s < 8) (ha : aliv q s = true) : IV b (grow q s) := by
  have h1 := grHd_lt hv hs
  have h2 := grTo_lt hv hs
  have h3 := hv.2.2.2 s hs
  have h4 := lvL_lt (q (85 + 4 * s))
  have h5 : q (85 + 4 * s + 3) < lv (q (85 + 4 * s)) := by unfold aliv at ha; simpa using ha
  refine ⟨by rw [grow_lo hs h1 (by omega)]; exact hv.1, by rw [grow_lo hs h1 (by omega)]; exact hv.2.1, fun c hc => ?_, fun j hj => ?_⟩
  · have h6 := hv.2.2.1 c hc
    have h7 := trL_lt (q (85 + 4 * s))
    rw [grow_lo (i := 13 + c) hs h1 (by omega)]
    by_cases e : c = grHd q s
    · have e2 : grow q s (49 + c) = grPa q s := by
        unfold grow; rw [upq_F (by omega), upq_T (by omega)]
      rw [e2]
      unfold grPa
      rw [← e]
      refine ⟨?_, h6.2.1, fun h0 => ?_⟩
      · split <;> omega
      · rw [if_neg (fun h => h0 h.1)]; exact h6.2.2 h0
    · have e2 : grow q s (49 + c) = q (49 + c) := by
        unfold grow; rw [upq_F (by omega), upq_F (by omega), upq_F (by omega), upq_F (by omega)]
      rw [e2]; exact h6
  · have h6 := hv.2.2.2 j hj
    by_cases e : j = s
    · subst e
      have e0 : grow q j (85 + 4 * j) = q (85 + 4 * j) := by
        unfold grow; rw [upq_F (by omega), upq_F (by omega), upq_F (by omega), upq_F (by omega)]
      have e1 : grow q j (85 + 4 * j + 1) = grHd q j := by
        unfold grow; rw [upq_F (by omega), upq_F (by omega), upq_T (by omega)]
      have e2 : grow q j (85 + 4 * j + 2) = grTo q j := by
        unfold grow; rw [upq_F (by omega), upq_F (by omega), upq_F (by omega), upq_T (by omega)]
      have e3 : grow q j (85 + 4 * j + 3) = q (85 + 4 * j + 3) + 1 := by
        unfold grow; rw [upq_T (by omega)]
      rw [e0, e1, e2, e3]
      omega
    · have e0 : ∀ k, k < 4 → grow q s (85 + 4 * j + k) = q (85 + 4 * j + k) := fun k hk => by
        unfold grow; rw [upq_F (by omega), upq_F (by omega), upq_F (by omega), upq_F (by omega)]
      have e00 := e0 0 (by decide)
      rw [Nat.add_zero] at e00
      rw [e00, e0 1 (by decide), e0 2 (by decide), e0 3 (by decide)]
      exact h6
