theorem e7_grows (n : Nat) (hn : 40 ≤ n) {s : Nat} {r lives treads : Nat → Int32} {q : Nat → Nat} {e : Nat → Int32} {b : Nat} (hr : RM r q e) (hl : LV lives) (ht : TR treads) (hv : IV b q) (hb : b < 2 ^ 31) (hs : s < 8) :
    ∃ r', fX7_grows n (nI s) r lives treads = some r' ∧ RM r' (grow q s) e := by
  have hh := hv.2.2.2 s hs
  have htu := turn_lt hv hs
  have hnb := nbc_le (q (85 + 4 * s + 1)) (turn q s) hh.2.1
  have key : ∀ hd to, hd < 36 → grHd q s = hd → grTo q s = to → RM (upd (upd (upd (upd r (85 + 4 * s + 2) (nI to)) (85 + 4 * s + 1) (nI hd)) (49 + hd) (nI (if q (13 + hd) = 0 ∧ q (49 + hd) < tr (q (85 + 4 * s)) then tr (q (85 + 4 * s)) else q (49 + hd)))) (85 + 4 * s + 3) (nI (q (85 + 4 * s + 3) + 1))) (grow q s) e := by
    intro hd to hhd e1 e2
    unfold grow grPa
    rw [e1, e2]
    exact (((hr.up _ _ (by omega)).up _ _ (by omega)).up _ _ (by omega)).up _ _ (by omega)
  have hvt : (nI (turn q s) + (1 : Int32)) - (nI (turn q s) + (1 : Int32)) / (4 : Int32) * (4 : Int32) = nI ((turn q s + 1) % 4) := by
    rw [z_1, z_4, nI_add, pk_rem (by omega) (by decide) (by decide)]
  unfold fX7_grows
  rw [e7_turnOf n hn hr hl hv hb hs, Option.bind_some, e7_seedK n z_1 hr hs (by decide), Option.bind_some, e_beside n hh.2.1 htu, Option.bind_some]
  by_cases g1 : nbc (q (85 + 4 * s + 1)) (turn q s) < 36
  · rw [nbI_T g1, if_neg (nI_pos (by omega)), e7_isGrass n hr hv g1, Option.bind_some]
    by_cases g2 : q (13 + nbc (q (85 + 4 * s + 1)) (turn q s)) = 0
    · rw [if_pos g2, if_neg (by decide)]
      exact ⟨_, e7_tail n rfl hr ht hv hs g1, key _ _ g1 (by unfold grHd; rw [if_pos ⟨g1, g2⟩]) (by unfold grTo; rw [if_pos ⟨g1, g2⟩])⟩
    · rw [if_neg g2, if_pos (by rfl)]
      exact ⟨_, e7_tail n hvt hr ht hv hs hh.2.1, key _ _ hh.2.1 (by unfold grHd; rw [if_neg (fun h => g2 h.2)]) (by unfold grTo; rw [if_neg (fun h => g2 h.2)])⟩
  · rw [nbI_F (by omega), if_pos (by decide)]
    exact ⟨_, e7_tail n hvt hr ht hv hs hh.2.1, key _ _ hh.2.1 (by unfold grHd; rw [if_neg (fun h => g1 h.1)]) (by unfold grTo; rw [if_neg (fun h => g1 h.1)])⟩
