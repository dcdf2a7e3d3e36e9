theorem lp_ex {σ ρ : Type} {b : σ → Option (σ ⊕ ρ)} {s0 : σ} (I : Nat → σ → Prop) (N : Nat) (X : ρ → Prop) (h0 : I 0 s0) (hb : ∀ k s, k < N → I k s → ∃ s', b s = some (.inl s') ∧ I (k + 1) s') (hN : ∀ s, I N s → ∃ v, b s = some (.inr v) ∧ X v) {n : Nat} (hn : N < n) : ∃ v, lp b n s0 = some v ∧ X v := by
  have key : ∀ d k s n, k + d = N → d < n → I k s → ∃ v, lp b n s = some v ∧ X v := by
    intro d
    induction d with
    | zero =>
      intro k s n hk hn hI
      obtain ⟨n, rfl⟩ : ∃ m, n = m + 1 := ⟨n - 1, by omega⟩
      have : k = N := by omega
      subst this
      obtain ⟨v, h1, h2⟩ := hN s hI
      exact ⟨v, by rw [lp, h1]; rfl, h2⟩
    | succ d ih =>
      intro k s n hk hn hI
      obtain ⟨n, rfl⟩ : ∃ m, n = m + 1 := ⟨n - 1, by omega⟩
      obtain ⟨s', h1, h2⟩ := hb k s (by omega) hI
      obtain ⟨v, h3, h4⟩ := ih (k + 1) s' n (by omega) (by omega) h2
      exact ⟨v, by rw [lp, h1]; exact h3, h4⟩
  exact key N 0 s0 n (by omega) hn h0
theorem lpx {σ ρ α : Type} {b : σ → Option (σ ⊕ ρ)} {kont : ρ → Option α} {s0 : σ} {Y : α → Prop} (I : Nat → σ → Prop) (N : Nat) (X : ρ → Prop) (h0 : I 0 s0) (hb : ∀ k s, k < N → I k s → ∃ s', b s = some (.inl s') ∧ I (k + 1) s') (hN : ∀ s, I N s → ∃ v, b s = some (.inr v) ∧ X v) {n : Nat} (hn : N < n) (hk : ∀ v, X v → ∃ y, kont v = some y ∧ Y y) : ∃ y, (lp b n s0).bind kont = some y ∧ Y y := by
  obtain ⟨v, h1, h2⟩ := lp_ex I N X h0 hb hN hn
  rw [h1]; exact hk v h2
def fade (q : Nat → Nat) : Nat → Nat := fun i => if 49 ≤ i ∧ i < 85 then q i - 1 else q i
def gstep (s : Nat) (q : Nat → Nat) : Nat → Nat := if aliv q s = true then grow q s else q
theorem gstep_T {s : Nat} {q : Nat → Nat} (h : aliv q s = true) : gstep s q = grow q s := if_pos h
theorem gstep_F {s : Nat} {q : Nat → Nat} (h : ¬ aliv q s = true) : gstep s q = q := if_neg h
def grown (q : Nat → Nat) : Nat → Nat := it gstep (q 1) (fade q)
def ssn (q : Nat → Nat) : Nat → Nat := upq (grown q) 0 (q 0 + 1)
theorem fade_at {q : Nat → Nat} {i : Nat} (h : i < 49 ∨ 85 ≤ i) : fade q i = q i := if_neg (by omega)
theorem IV_fade {b : Nat} {q : Nat → Nat} (hv : IV b q) : IV b (fade q) := by
  refine ⟨by rw [fade_at (by omega)]; exact hv.1, by rw [fade_at (by omega)]; exact hv.2.1, fun c hc => ?_, fun s hs => ?_⟩
  · have h := hv.2.2.1 c hc
    have e : fade q (49 + c) = q (49 + c) - 1 := if_pos (by omega)
    rw [e, fade_at (i := 13 + c) (by omega)]
    exact ⟨by omega, h.2.1, fun h0 => by have := h.2.2 h0; omega⟩
  · rw [fade_at (by omega), fade_at (by omega), fade_at (by omega), fade_at (by omega)]; exact hv.2.2.2 s hs
theorem it_lo {q : Nat → Nat} {b : Nat} (hv : IV b q) : ∀ k, k ≤ 8 → IV b (it gstep k q) ∧ ∀ i, i < 49 → it gstep k q i = q i := by
  intro k
  induction k with
  | zero => intro _; exact ⟨hv, fun i _ => rfl⟩
  | succ k ih =>
    intro hk
    obtain ⟨h1, h2⟩ := ih (by omega)
    show IV b (gstep k (it gstep k q)) ∧ ∀ i, i < 49 → gstep k (it gstep k q) i = q i
    by_cases ha : aliv (it gstep k q) k = true
    · rw [gstep_T ha]
      exact ⟨IV_grow h1 (by omega) ha, fun i hi => by rw [grow_lo (by omega) (grHd_lt h1 (by omega)) hi, h2 i hi]⟩
    · rw [gstep_F ha]; exact ⟨h1, h2⟩
theorem IV_ssn {b : Nat} {q : Nat → Nat} (hv : IV b q) : IV (b + 1) (ssn q) := by
  obtain ⟨h1, h2⟩ := it_lo (IV_fade hv) (q 1) hv.1
  have h3 := hv.2.1
  unfold ssn
  refine ⟨by rw [upq_F (by omega)]; exact h1.1, by rw [upq_T rfl]; omega, fun c hc => ?_, fun s hs => ?_⟩
  · rw [upq_F (by omega), upq_F (by omega)]; exact h1.2.2.1 c hc
  · rw [upq_F (by omega), upq_F (by omega), upq_F (by omega), upq_F (by omega)]; exact h1.2.2.2 s hs
theorem ssn_k {b : Nat} {q : Nat → Nat} (hv : IV b q) : ssn q 1 = q 1 ∧ ssn q 0 = q 0 + 1 ∧ ∀ c, c < 36 → ssn q (13 + c) = q (13 + c) := by
  obtain ⟨h1, h2⟩ := it_lo (IV_fade hv) (q 1) hv.1
  unfold ssn
  exact ⟨by rw [upq_F (by omega)]; exact (h2 1 (by decide)).trans (fade_at (by omega)), upq_T rfl, fun c hc => by rw [upq_F (by omega)]; exact (h2 _ (by omega)).trans (fade_at (by omega))⟩
theorem e7_season (n : Nat) (hn : 40 ≤ n) {r lives treads : Nat → Int32} {q : Nat → Nat} {e : Nat → Int32} {b : Nat} (hr : RM r q e) (hl : LV lives) (ht : TR treads) (hv : IV b q) (hb : b < 2 ^ 30) :
    ∃ r', fX7_season n r lives treads = some r' ∧ RM r' (ssn q) e := by
  have hk8 := hv.1
  unfold fX7_season
  have f1 : lp (fun (s1 : Int32 × (Nat → Int32)) => ((if (36 : Int32) ≤ s1.1 then some (.inr (s1.1, s1.2)) else (if vi ((49 : Int32) + s1.1) 117 then (if vi ((49 : Int32) + s1.1) 117 then some (.inl ((s1.1 + (1 : Int32)), (upd s1.2 ((49 : Int32) + s1.1).toNatClampNeg (if (0 : Int32) < ((s1.2 ((49 : Int32) + s1.1).toNatClampNeg) - (1 : Int32)) then ((s1.2 ((49 : Int32) + s1.1).toNatClampNeg) - (1 : Int32)) else (0 : Int32))))) else none) else none)) : Option ((Int32 × (Nat → Int32)) ⊕ (Int32 × (Nat → Int32))))) n ((0 : Int32), r) = some (nI 36, fun i => if 49 ≤ i ∧ i < 49 + 36 then nI (q i - 1) else r i) := by
    refine lp_it (fun k => (nI k, fun i => if 49 ≤ i ∧ i < 49 + k then nI (q i - 1) else r i)) 36 (by
      show (nI 0, fun i => if 49 ≤ i ∧ i < 49 + 0 then nI (q i - 1) else r i) = ((0 : Int32), r)
      have : (fun i => if 49 ≤ i ∧ i < 49 + 0 then nI (q i - 1) else r i) = r := funext fun i => if_neg (by omega)
      rw [this]; rfl) (fun k hk => ?_) ?_ (by omega)
    · have h0 := hr.at (49 + k) (by omega) (by omega)
      have h1 := (hv.2.2.1 k hk).1
      have eU : upd (fun i => if 49 ≤ i ∧ i < 49 + k then nI (q i - 1) else r i) (49 + k) (nI (q (49 + k) - 1)) = fun i => if 49 ≤ i ∧ i < 49 + (k + 1) then nI (q i - 1) else r i := by
        funext i
        by_cases ei : i = 49 + k
        · subst ei; rw [upd_T rfl, if_pos (by omega)]
        · rw [upd_F (by omega)]
          by_cases h : 49 ≤ i ∧ i < 49 + k
          · rw [if_pos h, if_pos (by omega)]
          · rw [if_neg h, if_neg (by omega)]
      have e0 : (fun i => if 49 ≤ i ∧ i < 49 + k then nI (q i - 1) else r i) (49 + k) = nI (q (49 + k)) := by
        show (if 49 ≤ 49 + k ∧ 49 + k < 49 + k then _ else _) = _
        rw [if_neg (by omega), h0]
      generalize (fun i => if 49 ≤ i ∧ i < 49 + k then nI (q i - 1) else r i) = G at eU e0 ⊢
      dsimp +instances only
      rw [if_neg (show ¬ (36 : Int32) ≤ nI k from nI_ge (a := k) (b := 36) hk (by decide)), z_49, nI_add, if_pos (vi_N (by omega) (by decide)), if_pos (vi_N (by omega) (by decide)), nI_clamp (by omega)]
      rw [e0, z_1, nI_add]
      by_cases hz : q (49 + k) = 0
      · have em : nI (q (49 + k)) - nI 1 = m1 := by rw [hz]; decide
        rw [em, if_neg (by decide), ← eU, hz]; rfl
      · rw [pk_sub (by omega)]
        by_cases h2 : 0 < q (49 + k) - 1
        · rw [if_pos (show (0 : Int32) < nI (q (49 + k) - 1) from nI_lt (a := 0) h2 (by omega)), ← eU]
        · rw [if_neg (show ¬ (0 : Int32) < nI (q (49 + k) - 1) from nI_nlt (a := 0) (by omega) (by decide)), ← eU]
          have : q (49 + k) - 1 = 0 := by omega
          rw [this]; rfl
    · rfl
  rw [f1, Option.bind_some]
  have hr1 : RM (fun i => if 49 ≤ i ∧ i < 49 + 36 then nI (q i - 1) else r i) (fade q) e := by
    intro i hi
    show (if 49 ≤ i ∧ i < 49 + 36 then nI (q i - 1) else r i) = _
    unfold fade
    by_cases h : 49 ≤ i ∧ i < 85
    · rw [if_pos (by omega), if_neg (by omega), if_pos h]
    · rw [if_neg (by omega), hr i hi, if_neg h]
  generalize (fun i => if 49 ≤ i ∧ i < 49 + 36 then nI (q i - 1) else r i) = r1 at hr1
  refine lpx (fun k s => ∃ r2, s = (nI k, r2) ∧ RM r2 (it gstep k (fade q)) e) (q 1) (fun v => RM v.2 (grown q) e) ⟨_, rfl, hr1⟩ (fun k s hk hI => ?_) (fun s hI => ?_) (by omega) (fun v hX => ?_)
  · obtain ⟨r2, rfl, h2⟩ := hI
    obtain ⟨i1, i2⟩ := it_lo (IV_fade hv) k (by omega)
    have hr2 : r2 (1 : Int32).toNatClampNeg = nI (q 1) := (h2.at 1 (by decide) (by decide)).trans (by rw [i2 1 (by decide), fade_at (by omega)])
    dsimp +instances only
    rw [hr2, if_neg (nI_ge hk (by omega)), e7_isAlive n h2 hl i1 (by omega), Option.bind_some]
    by_cases ha : aliv (it gstep k (fade q)) k = true
    · obtain ⟨r3, h3, h4⟩ := e7_grows n hn h2 hl ht i1 (by omega) (s := k) (by omega)
      rw [if_pos ha, if_neg (by decide), h3, Option.bind_some, z_1, nI_add]
      exact ⟨_, rfl, r3, rfl, by show RM r3 (gstep k (it gstep k (fade q))) e; rw [gstep_T ha]; exact h4⟩
    · rw [if_neg ha, if_pos (by rfl), z_1, nI_add]
      exact ⟨_, rfl, r2, rfl, by show RM r2 (gstep k (it gstep k (fade q))) e; rw [gstep_F ha]; exact h2⟩
  · obtain ⟨r2, rfl, h2⟩ := hI
    obtain ⟨i1, i2⟩ := it_lo (IV_fade hv) (q 1) (by omega)
    have hr2 : r2 (1 : Int32).toNatClampNeg = nI (q 1) := (h2.at 1 (by decide) (by decide)).trans (by rw [i2 1 (by decide), fade_at (by omega)])
    dsimp +instances only
    rw [hr2, if_pos (nI_le (Nat.le_refl _) (by omega))]
    exact ⟨_, rfl, h2⟩
  · obtain ⟨i1, i2⟩ := it_lo (IV_fade hv) (q 1) (by omega)
    have h0 : v.2 (0 : Int32).toNatClampNeg = nI (q 0) := (hX.at 0 (by decide) (by decide)).trans (by unfold grown; rw [i2 0 (by decide), fade_at (by omega)])
    refine ⟨_, rfl, ?_⟩
    rw [h0, z_1, nI_add]
    exact hX.up 0 (q 0 + 1) (by omega)
