/-! texts: all the items -/
def CH (items : Nat → Int32) (q0 : Nat → Nat) (m : Nat) (q : Nat → Nat) : Prop :=
  ∃ Q : Nat → Nat → Nat, Q 0 = q0 ∧ Q m = q ∧ ∀ i, i < m → ∃ a c d o, okI (Q i) a c d o ∧ Q (i + 1) = apI (Q i) a c d o ∧ items (4 * i) = nI a ∧ items (4 * i + 1) = nI c ∧ items (4 * i + 2) = nI d ∧ items (4 * i + 3) = nI o
theorem it4_lo {f : Nat → Int32} {m : Nat} {a b c d : Int32} {i : Nat} (h : i < 4 * m) : it4 f m a b c d i = f i := by
  unfold it4; rw [upd_F (by omega), upd_F (by omega), upd_F (by omega), upd_F (by omega)]
theorem it4_0 {f : Nat → Int32} {m : Nat} {a b c d : Int32} : it4 f m a b c d (4 * m) = a ∧ it4 f m a b c d (4 * m + 1) = b ∧ it4 f m a b c d (4 * m + 2) = c ∧ it4 f m a b c d (4 * m + 3) = d := by
  unfold it4
  refine ⟨?_, ?_, ?_, ?_⟩
  · rw [upd_F (by omega), upd_F (by omega), upd_F (by omega), upd_T rfl]
  · rw [upd_F (by omega), upd_F (by omega), upd_T rfl]
  · rw [upd_F (by omega), upd_T rfl]
  · rw [upd_T rfl]
theorem CH_0 (items : Nat → Int32) (q : Nat → Nat) : CH items q 0 q := ⟨fun _ => q, rfl, rfl, fun i hi => absurd hi (Nat.not_lt_zero _)⟩
theorem CH.snoc {items : Nat → Int32} {q0 q : Nat → Nat} {m a c d o : Nat} (h : CH items q0 m q) (ho : okI q a c d o) : CH (it4 items m (nI a) (nI c) (nI d) (nI o)) q0 (m + 1) (apI q a c d o) := by
  obtain ⟨Q, h1, h2, h3⟩ := h
  refine ⟨fun i => if i ≤ m then Q i else apI q a c d o, ?_, ?_, fun i hi => ?_⟩
  · dsimp only; rw [if_pos (Nat.zero_le _)]; exact h1
  · dsimp only; rw [if_neg (by omega)]
  · dsimp only
    by_cases e : i = m
    · subst e
      rw [if_pos (Nat.le_refl _), if_neg (by omega), h2]
      exact ⟨a, c, d, o, ho, rfl, it4_0⟩
    · rw [if_pos (show i ≤ m by omega), if_pos (show i + 1 ≤ m by omega), it4_lo (by omega), it4_lo (by omega), it4_lo (by omega), it4_lo (by omega)]
      exact h3 i (by omega)
theorem IV_apI {b : Nat} {q : Nat → Nat} {a c d o : Nat} (hv : IV b q) (h : okI q a c d o) : IV b (apI q a c d o) := by
  obtain ⟨hc, ⟨rfl, h1⟩ | ⟨rfl, h1, h2⟩ | ⟨h1, h2, h3, h4⟩⟩ := h
  · rw [apI_g]; exact IV_gset hv hc h1
  · rw [apI_p]; exact hv.path hc h1 (fun e => absurd h2 e)
  · rw [apI_s h1]; exact IV_qpl hv h4 h1 hc h2 h3
theorem apI_1 {q : Nat → Nat} {a c d o : Nat} (h : okI q a c d o) : q 1 ≤ apI q a c d o 1 := by
  obtain ⟨hc, ⟨rfl, h1⟩ | ⟨rfl, h1, h2⟩ | ⟨h1, h2, h3, h4⟩⟩ := h
  · rw [apI_g, gset_o (by omega) (by omega)]; exact Nat.le_refl _
  · rw [apI_p, upq_F (by omega)]; exact Nat.le_refl _
  · rw [apI_s h1]; unfold qpl; rw [upq_T rfl]; omega
/-- one item told -/
theorem told1 (n : Nat) {r items : Nat → Int32} {q : Nat → Nat} {e : Nat → Int32} {b i a c d o : Nat} (hr : RM r q e) (hv : IV b q) (h : okI q a c d o) (hi : i < 120) (h0 : items (4 * i) = nI a) (h1 : items (4 * i + 1) = nI c) (h2 : items (4 * i + 2) = nI d) (h3 : items (4 * i + 3) = nI o) :
    ∃ x, fX7_isToldSo n ((4 : Int32) * nI i) r items = some x ∧ 0 ≤ x.1 ∧ RM x.2 (apI q a c d o) e := by
  unfold fX7_isToldSo
  have v0 : vi (nI (4 * i)) 480 := vi_N (by omega) (by decide)
  have v1 : vi (nI (4 * i + 1)) 480 := vi_N (by omega) (by decide)
  have v2 : vi (nI (4 * i + 2)) 480 := vi_N (by omega) (by decide)
  have v3 : vi (nI (4 * i + 3)) 480 := vi_N (by omega) (by decide)
  rw [z_4, pk_mul, z_1, nI_add, z_2, nI_add, z_3, nI_add]
  simp only [if_pos v1, if_pos v2, if_pos v0, nI_clamp (show 4 * i < 2 ^ 31 by omega), nI_clamp (show 4 * i + 1 < 2 ^ 31 by omega), nI_clamp (show 4 * i + 2 < 2 ^ 31 by omega), nI_clamp (show 4 * i + 3 < 2 ^ 31 by omega), h0, h1, h2, h3]
  obtain ⟨hc, ⟨rfl, g1⟩ | ⟨rfl, g1, g2⟩ | ⟨g1, g2, g3, g4⟩⟩ := h
  · obtain ⟨x, x1, x2, x3⟩ := e7_lay n hr hc g1
    rw [if_pos (by rfl), x1, Option.bind_some, apI_g]
    exact ⟨_, rfl, by dsimp only; rw [x2]; exact nI_pos' (by have := (hv.2.2.1 c hc).2.1; omega), x3⟩
  · rw [if_neg (by decide), if_pos (by rfl), apI_p, z_49, nI_add]
    have v4 : vi (nI (49 + c)) 117 := vi_N (by omega) (by decide)
    unfold fX7_become
    rw [if_pos v4, if_pos v4, nI_clamp (by omega), Option.bind_some]
    exact ⟨_, rfl, by dsimp only; rw [hr.at (49 + c) (by omega) (by omega)]; exact nI_pos' (by have := (hv.2.2.1 c hc).1; omega), hr.up _ _ (by omega)⟩
  · have h10 : ¬ nI a = (10 : Int32) := nIneK z_10 (by omega) (by omega) (by decide)
    have h11 : ¬ nI a = (11 : Int32) := nIneK z_11 (by omega) (by omega) (by decide)
    obtain ⟨x, x1, x2, x3⟩ := e7_comes n hr g4 (k := a) (c := c) (h := d) (a := o)
    rw [if_neg h10, if_neg h11, if_pos v3, x1, Option.bind_some, apI_s g1]
    exact ⟨_, rfl, by dsimp only; rw [x2]; exact nI_pos' (by have := hv.1; omega), x3⟩
theorem toldAll (n : Nat) (hn : 200 ≤ n) {r items : Nat → Int32} {q0 q : Nat → Nat} {e : Nat → Int32} {b m : Nat} (hr : RM r q0 e) (hv : IV b q0) (hC : CH items q0 m q) (hm : m < 120) :
    ∃ v, lp (fun (s33 : Int32 × Int32 × (Nat → Int32)) => ((if (nI m) ≤ s33.2.1 then some (.inr (s33.1, s33.2.1, s33.2.2)) else ((fX7_isToldSo n ((4 : Int32) * s33.2.1) s33.2.2 items).bind (fun q36 => (if 0 ≤ q36.1 then some (.inl ((s33.1 + (1 : Int32)), (s33.2.1 + (1 : Int32)), q36.2)) else some (.inl ((s33.1 + (0 : Int32)), (s33.2.1 + (1 : Int32)), q36.2)))))) : Option ((Int32 × Int32 × (Nat → Int32)) ⊕ (Int32 × Int32 × (Nat → Int32))))) n ((0 : Int32), (0 : Int32), r) = some v ∧ v.1 = nI m ∧ RM v.2.2 q e := by
  obtain ⟨Q, h1, h2, h3⟩ := hC
  subst h1 h2
  have hvi : ∀ i, i ≤ m → IV b (Q i) := by
    intro i
    induction i with
    | zero => intro _; exact hv
    | succ i ih =>
      intro hi
      obtain ⟨a, c, d, o, g1, g2, -⟩ := h3 i (by omega)
      rw [g2]; exact IV_apI (ih (by omega)) g1
  refine lp_ms (fun s => ∃ i r, s = (nI i, nI i, r) ∧ i ≤ m ∧ RM r (Q i) e) (fun s => m - s.1.toNatClampNeg) _ ?_ n _ ⟨0, r, rfl, Nat.zero_le _, hr⟩ (by dsimp only; omega)
  rintro s ⟨i, r', rfl, hi, hr'⟩
  dsimp +instances only
  by_cases hlt : i < m
  · obtain ⟨a, c, d, o, g1, g2, g3, g4, g5, g6⟩ := h3 i hlt
    obtain ⟨x, x1, x2, x3⟩ := told1 n hr' (hvi i hi) g1 (show i < 120 by omega) g3 g4 g5 g6
    rw [if_neg (nI_ge hlt (by omega)), x1, Option.bind_some, if_pos x2, z_1, nI_add]
    exact Or.inr ⟨_, rfl, ⟨i + 1, x.2, rfl, by omega, by rw [g2]; exact x3⟩, by dsimp only; rw [nI_clamp (by omega), nI_clamp (by omega)]; omega⟩
  · have : i = m := by omega
    subst this
    rw [if_pos (nI_le (Nat.le_refl _) (by omega))]
    exact Or.inl ⟨_, rfl, rfl, hr'⟩
