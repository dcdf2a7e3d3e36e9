/-! a seed goes on: the class -/
theorem e2_tail (n : Nat) {water wall : Int64} {paths kind : Nat → Int32} {q : Nat → Nat} {b hd j : Nat} (hp : RP paths q) (hw : RS water q 1) (ha : RS wall q 2) (hk : RF kind q 0) (hv : IV b q) (hc : hd < 36) (hj : j < 8) (L F A : Nat → Int32) :
    ((fX2_pathOf n (nI hd) paths).bind (fun q8 => ((fX3_treads n j kind).bind (fun q10 => (if q10 ≤ q8 then some (paths, L, F, A) else ((fX3_treads n j kind).bind (fun q13 => ((fX2_becomePath n (nI hd) q13 paths water wall).bind (fun q15 => some (q15, L, F, A))))))))) : Option ((Nat → Int32) × (Nat → Int32) × (Nat → Int32) × (Nat → Int32)))
      = some (if q (13 + hd) = 0 ∧ q (49 + hd) < tr (q (85 + 4 * j)) then upd paths hd (nI (tr (q (85 + 4 * j)))) else paths, L, F, A) := by
  have h1 := hv.2.2.2 j hj
  have h2 := trL_lt (q (85 + 4 * j))
  have h3 := (hv.2.2.1 hd hc).1
  rw [e2_pathOf n hp hc, Option.bind_some, e3_treads n (hk.k0 hj) (by omega), Option.bind_some]
  by_cases h : q (49 + hd) < tr (q (85 + 4 * j))
  · rw [if_neg (nI_ge h (by omega)), Option.bind_some, e2_becomePath n hw ha hv hc, Option.bind_some]
    by_cases h0 : q (13 + hd) = 0
    · rw [if_pos h0, if_pos ⟨h0, h⟩]
    · rw [if_neg h0, if_neg (fun e => h0 e.1)]
  · rw [if_pos (nI_le (by omega) (by omega)), if_neg (fun e => h e.2)]
theorem upd_at {f : Nat → Int32} {j : Nat} {x : Int32} : upd f j x j = x := if_pos rfl
theorem e2_advance (n : Nat) (hn : 40 ≤ n) {j : Nat} {water wall : Int64} {paths kind place facing age : Nat → Int32} {q : Nat → Nat} {b : Nat} (hp : RP paths q) (hw : RS water q 1) (hx : RS wall q 2) (hk : RF kind q 0) (hl : RF place q 1) (hf : RF facing q 2) (ha : RF age q 3) (hv : IV b q) (hb : b < 2 ^ 31) (hj : j < 8) :
    ∃ P L F A, fX2_advance n j paths water wall kind place facing age (nI (q 1)) (nI (q 0)) = some (P, L, F, A) ∧ RP P (grow q j) ∧ RF L (grow q j) 1 ∧ RF F (grow q j) 2 ∧ RF A (grow q j) 3 := by
  have hh := hv.2.2.2 j hj
  have ht := turn_lt hv hj
  have hnb := nbc_le (q (85 + 4 * j + 1)) (turn q j) hh.2.1
  have key : ∀ hd to, hd < 36 → grHd q j = hd → grTo q j = to → ∀ L F, (∀ s, s < 8 → L s = nI (upq q (85 + 4 * j + 1) hd (85 + 4 * s + 1))) → (∀ s, s < 8 → F s = nI (upq q (85 + 4 * j + 2) to (85 + 4 * s + 2))) →
      ∃ P L' F' A', some (if q (13 + hd) = 0 ∧ q (49 + hd) < tr (q (85 + 4 * j)) then upd paths hd (nI (tr (q (85 + 4 * j)))) else paths, L, F, upd age j (age j + (1 : Int32))) = some (P, L', F', A') ∧ RP P (grow q j) ∧ RF L' (grow q j) 1 ∧ RF F' (grow q j) 2 ∧ RF A' (grow q j) 3 := by
    intro hd to hhd e1 e2 L F hL hF
    refine ⟨_, _, _, _, rfl, ?_, ?_, ?_, ?_⟩
    · intro c hc
      unfold grow grPa
      rw [e1, upq_F (by omega)]
      by_cases e : c = hd
      · subst e
        rw [upq_T rfl]
        split
        · rw [upd_T rfl]
        · exact hp c hc
      · rw [upq_F (by omega), upq_F (by omega), upq_F (by omega)]
        split
        · rw [upd_F (by omega)]; exact hp c hc
        · exact hp c hc
    · intro s hs
      unfold grow
      rw [e1, upq_F (by omega), upq_F (by omega), hL s hs]
      by_cases e : s = j
      · subst e; rw [upq_T rfl, upq_T rfl]
      · rw [upq_F (by omega), upq_F (by omega), upq_F (by omega)]
    · intro s hs
      unfold grow
      rw [e1, e2, upq_F (by omega), upq_F (by omega), upq_F (by omega), hF s hs]
    · intro s hs
      unfold grow
      by_cases e : s = j
      · subst e; rw [upq_T rfl, upd_at, ha s hs, z_1, nI_add]
      · rw [upq_F (by omega), e1, upq_F (by omega), upq_F (by omega), upq_F (by omega), upd_F (by omega), ha s hs]
  unfold fX2_advance
  rw [e2_turnOf n hn hw hk hl hf ha hv hb hj, Option.bind_some, upd_at, hl j hj, e_neighbour n hh.2.1 ht, Option.bind_some]
  by_cases g1 : nbc (q (85 + 4 * j + 1)) (turn q j) < 36
  · rw [nbI_T g1, if_neg (nI_pos (by omega)), e2_isGrass n hw hx hv g1, Option.bind_some]
    by_cases g2 : q (13 + nbc (q (85 + 4 * j + 1)) (turn q j)) = 0
    · rw [if_pos g2, if_neg (by decide), upd_at, e2_tail n hp hw hx hk hv g1 hj]
      refine key _ _ g1 (by unfold grHd; rw [if_pos ⟨g1, g2⟩]) (by unfold grTo; rw [if_pos ⟨g1, g2⟩]) _ _ (fun s hs => ?_) (fun s hs => ?_)
      · by_cases e : s = j
        · subst e; rw [upd_T rfl, upq_T rfl]
        · rw [upd_F (by omega), upq_F (by omega), hl s hs]
      · by_cases e : s = j
        · subst e; rw [upd_T rfl, upq_T rfl]
        · rw [upd_F (by omega), upq_F (by omega), hf s hs]
    · rw [if_neg g2, if_pos (by rfl), z_1, e0_turned n (by omega), Option.bind_some, e2_tail n hp hw hx hk hv hh.2.1 hj]
      refine key _ _ hh.2.1 (by unfold grHd; rw [if_neg (fun h => g2 h.2)]) (by unfold grTo; rw [if_neg (fun h => g2 h.2)]) _ _ (fun s hs => ?_) (fun s hs => ?_)
      · by_cases e : s = j
        · subst e; rw [upq_T rfl, hl s hs]
        · rw [upq_F (by omega), hl s hs]
      · by_cases e : s = j
        · subst e; rw [upd_T rfl, upq_T rfl]
        · rw [upd_F (by omega), upd_F (by omega), upq_F (by omega), hf s hs]
  · rw [nbI_F (by omega), if_pos (by decide), z_1, e0_turned n (by omega), Option.bind_some, e2_tail n hp hw hx hk hv hh.2.1 hj]
    refine key _ _ hh.2.1 (by unfold grHd; rw [if_neg (fun h => g1 h.1)]) (by unfold grTo; rw [if_neg (fun h => g1 h.1)]) _ _ (fun s hs => ?_) (fun s hs => ?_)
    · by_cases e : s = j
      · subst e; rw [upq_T rfl, hl s hs]
      · rw [upq_F (by omega), hl s hs]
    · by_cases e : s = j
      · subst e; rw [upd_T rfl, upq_T rfl]
      · rw [upd_F (by omega), upd_F (by omega), upq_F (by omega), hf s hs]
