/-! a seed's going on -/
def grHd (q : Nat → Nat) (s : Nat) : Nat := if nbc (q (85 + 4 * s + 1)) (turn q s) < 36 ∧ q (13 + nbc (q (85 + 4 * s + 1)) (turn q s)) = 0 then nbc (q (85 + 4 * s + 1)) (turn q s) else q (85 + 4 * s + 1)
def grTo (q : Nat → Nat) (s : Nat) : Nat := if nbc (q (85 + 4 * s + 1)) (turn q s) < 36 ∧ q (13 + nbc (q (85 + 4 * s + 1)) (turn q s)) = 0 then turn q s else (turn q s + 1) % 4
def grPa (q : Nat → Nat) (s : Nat) : Nat := if q (13 + grHd q s) = 0 ∧ q (49 + grHd q s) < tr (q (85 + 4 * s)) then tr (q (85 + 4 * s)) else q (49 + grHd q s)
def grow (q : Nat → Nat) (s : Nat) : Nat → Nat := upq (upq (upq (upq q (85 + 4 * s + 2) (grTo q s)) (85 + 4 * s + 1) (grHd q s)) (49 + grHd q s) (grPa q s)) (85 + 4 * s + 3) (q (85 + 4 * s + 3) + 1)
theorem bq_grass {water wall : Int64} {q : Nat → Nat} {b c : Nat} (hw : RS water q 1) (ha : RS wall q 2) (hv : IV b q) (hc : c < 36) : bq (68719476735 &&& ((water ||| wall) ^^^ (-1))) c = decide (q (13 + c) = 0) := by
  have h := (hv.2.2.1 c hc).2.1
  rw [bq_and, bq_all c (by omega), bq_xor, bq_or, bq_m1 (by omega), hw c, ha c]
  simp only [hc, decide_true, Bool.true_and]
  have : q (13 + c) = 0 ∨ q (13 + c) = 1 ∨ q (13 + c) = 2 := by omega
  rcases this with h | h | h <;> rw [h] <;> decide
theorem e2_isGrass (n : Nat) {water wall : Int64} {q : Nat → Nat} {b c : Nat} (hw : RS water q 1) (ha : RS wall q 2) (hv : IV b q) (hc : c < 36) : fX2_isGrass n (nI c) water wall = some (if q (13 + c) = 0 then nI 1 else nI 0) := by
  unfold fX2_isGrass fX2_grassSet
  rw [Option.bind_some, e_bit, Option.bind_some]
  have h := bq_grass hw ha hv hc
  by_cases h0 : q (13 + c) = 0
  · have h1 : ¬ (68719476735 &&& ((water ||| wall) ^^^ (-1))) &&& bitL c = 0 := by rw [bq_test (by omega), h]; simp [h0]
    rw [if_neg h1, if_pos h0]; rfl
  · have h1 : (68719476735 &&& ((water ||| wall) ^^^ (-1))) &&& bitL c = 0 := by rw [bq_test (by omega), h]; simp [h0]
    rw [if_pos h1, if_neg h0]; rfl
theorem e2_pathOf (n : Nat) {paths : Nat → Int32} {q : Nat → Nat} {c : Nat} (hp : RP paths q) (hc : c < 36) : fX2_pathOf n (nI c) paths = some (nI (q (49 + c))) := by
  unfold fX2_pathOf fX6_at
  rw [if_neg (nI_pos (by omega)), if_neg (nI_ge hc (by decide)), if_pos (vi_N hc (by decide)), nI_clamp (by omega), hp c hc]; rfl
theorem e6_put (n : Nat) {N c : Nat} {v : Int32} {f : Nat → Int32} (hc : c < N) (hN : N < 2 ^ 31) : fX6_put n N (nI c) v f = some (upd f c v) := by
  unfold fX6_put
  rw [if_neg (nI_pos (by omega)), if_neg (nI_ge hc hN), if_pos (vi_N hc hN), nI_clamp (by omega)]
theorem e2_becomePath (n : Nat) {water wall : Int64} {paths : Nat → Int32} {q : Nat → Nat} {b c : Nat} {v : Int32} (hw : RS water q 1) (ha : RS wall q 2) (hv : IV b q) (hc : c < 36) : fX2_becomePath n (nI c) v paths water wall = some (if q (13 + c) = 0 then upd paths c v else paths) := by
  unfold fX2_becomePath
  rw [e2_isGrass n hw ha hv hc, Option.bind_some, e6_put n hc (by decide)]
  by_cases h0 : q (13 + c) = 0
  · rw [if_pos h0, if_neg (by decide), if_pos h0]; rfl
  · rw [if_neg h0, if_pos (by rfl), if_neg h0]
