/-! seasons: the class, and the reference's loop -/
theorem exl {σ ρ : Type} {o : Option (σ ⊕ ρ)} {I : σ → Prop} (h : ∃ y, o = some y ∧ ∃ s', y = .inl s' ∧ I s') : ∃ s', o = some (.inl s') ∧ I s' := by
  obtain ⟨y, h1, s', rfl, h2⟩ := h; exact ⟨s', h1, h2⟩
theorem lpxb {σ ρ α : Type} {b : σ → Option (σ ⊕ ρ)} {kont : ρ → Option α} {s0 : σ} {Y : α → Prop} (e : Nat → σ) (N : Nat) (v : ρ) (h0 : e 0 = s0) (hb : ∀ k, k < N → b (e k) = some (.inl (e (k + 1)))) (hN : b (e N) = some (.inr v)) {n : Nat} (hn : N < n) (hk : ∃ y, kont v = some y ∧ Y y) : ∃ y, (lp b n s0).bind kont = some y ∧ Y y := by
  rw [lp_it e N h0 hb hN hn]; exact hk
/-- a loop whose number of turns is not known: a measure falls -/
theorem lp_ms {σ ρ : Type} {b : σ → Option (σ ⊕ ρ)} (I : σ → Prop) (μ : σ → Nat) (X : ρ → Prop) (h : ∀ s, I s → (∃ v, b s = some (.inr v) ∧ X v) ∨ (∃ s', b s = some (.inl s') ∧ I s' ∧ μ s' < μ s)) : ∀ n s, I s → μ s < n → ∃ v, lp b n s = some v ∧ X v := by
  intro n
  induction n with
  | zero => intro s _ h1; exact absurd h1 (Nat.not_lt_zero _)
  | succ n ih =>
    intro s hI hm
    rcases h s hI with ⟨v, h1, h2⟩ | ⟨s', h1, h2, h3⟩
    · exact ⟨v, by rw [lp, h1]; rfl, h2⟩
    · obtain ⟨v, h4, h5⟩ := ih s' h2 (by omega)
      exact ⟨v, by rw [lp, h1]; exact h4, h5⟩
theorem lpm {σ ρ α : Type} {b : σ → Option (σ ⊕ ρ)} {kont : ρ → Option α} {s0 : σ} {Y : α → Prop} (I : σ → Prop) (μ : σ → Nat) (X : ρ → Prop) (h0 : I s0) (h : ∀ s, I s → (∃ v, b s = some (.inr v) ∧ X v) ∨ (∃ s', b s = some (.inl s') ∧ I s' ∧ μ s' < μ s)) {n : Nat} (hn : μ s0 < n) (hk : ∀ v, X v → ∃ y, kont v = some y ∧ Y y) : ∃ y, (lp b n s0).bind kont = some y ∧ Y y := by
  obtain ⟨v, h1, h2⟩ := lp_ms I μ X h n s0 h0 hn
  rw [h1]; exact hk v h2
theorem t_fade : ∀ v, v < 100 → (if (0 : Int32) < nI v - (1 : Int32) then nI v - (1 : Int32) else (0 : Int32)) = nI (v - 1) := by decide +kernel
theorem grow_kd {b : Nat} {q : Nat → Nat} {s j : Nat} (hv : IV b q) (hs : s < 8) : grow q s (85 + 4 * j) = q (85 + 4 * j) := by
  have := grHd_lt hv hs
  unfold grow; rw [upq_F (by omega), upq_F (by omega), upq_F (by omega), upq_F (by omega)]
theorem it_kd {q : Nat → Nat} {b : Nat} (hv : IV b q) : ∀ k, k ≤ 8 → ∀ j, it gstep k q (85 + 4 * j) = q (85 + 4 * j) := by
  intro k
  induction k with
  | zero => intro _ j; rfl
  | succ k ih =>
    intro hk j
    have h1 := (it_lo hv k (by omega)).1
    show gstep k (it gstep k q) (85 + 4 * j) = _
    by_cases ha : aliv (it gstep k q) k = true
    · rw [gstep_T ha, grow_kd h1 (by omega), ih (by omega)]
    · rw [gstep_F ha, ih (by omega)]
theorem ssn_kd {b : Nat} {q : Nat → Nat} (hv : IV b q) (j : Nat) : ssn q (85 + 4 * j) = q (85 + 4 * j) := by
  unfold ssn; rw [upq_F (by omega)]
  exact (it_kd (IV_fade hv) (q 1) hv.1 j).trans (fade_at (by omega))
theorem RS.eq {x : Int64} {q q' : Nat → Nat} {v : Nat} (h : RS x q v) (e : ∀ c, c < 36 → q' (13 + c) = q (13 + c)) : RS x q' v := by
  intro c; rw [h c]
  by_cases hc : c < 36
  · rw [e c hc]
  · simp [hc]
theorem RF.eq {f : Nat → Int32} {q q' : Nat → Nat} {k : Nat} (h : RF f q k) (e : ∀ s, s < 8 → q' (85 + 4 * s + k) = q (85 + 4 * s + k)) : RF f q' k := fun s hs => by rw [h s hs, e s hs]
theorem RP.eq {f : Nat → Int32} {q q' : Nat → Nat} (h : RP f q) (e : ∀ c, c < 36 → q' (49 + c) = q (49 + c)) : RP f q' := fun c hc => by rw [h c hc, e c hc]
def its (N : Nat) (q : Nat → Nat) : Nat → Nat := it (fun _ => ssn) N q
theorem its_s (N : Nat) (q : Nat → Nat) : its (N + 1) q = ssn (its N q) := rfl
theorem its_k {b : Nat} {q : Nat → Nat} (hv : IV b q) : ∀ N, IV (b + N) (its N q) ∧ its N q 1 = q 1 ∧ its N q 0 = q 0 + N ∧ (∀ c, c < 36 → its N q (13 + c) = q (13 + c)) ∧ ∀ j, its N q (85 + 4 * j) = q (85 + 4 * j) := by
  intro N
  induction N with
  | zero => exact ⟨hv, rfl, rfl, fun _ _ => rfl, fun _ => rfl⟩
  | succ N ih =>
    obtain ⟨h1, h2, h3, h4, h5⟩ := ih
    obtain ⟨k1, k2, k3⟩ := ssn_k h1
    rw [its_s]
    exact ⟨IV_ssn h1, k1.trans h2, by rw [k2, h3]; omega, fun c hc => (k3 c hc).trans (h4 c hc), fun j => (ssn_kd h1 j).trans (h5 j)⟩
theorem e7_seasons (n : Nat) (hn : 100 ≤ n) {N : Nat} (hN : N ≤ 60) {r lives treads : Nat → Int32} {q : Nat → Nat} {e : Nat → Int32} {b : Nat} (hr : RM r q e) (hl : LV lives) (ht : TR treads) (hv : IV b q) (hb : b < 99000) :
    ∃ r', fX7_seasons n (nI N) r lives treads = some r' ∧ RM r' (its N q) e := by
  unfold fX7_seasons
  refine lpx (fun k s => ∃ r2, s = (nI k, r2) ∧ RM r2 (its k q) e) N (fun v => RM v.2 (its N q) e) ⟨_, rfl, hr⟩ (fun k s hk hI => ?_) (fun s hI => ?_) (by omega) (fun v hX => ⟨_, rfl, hX⟩)
  · obtain ⟨r2, rfl, h2⟩ := hI
    obtain ⟨r3, h3, h4⟩ := e7_season n (by omega) h2 hl ht (its_k hv k).1 (by omega)
    dsimp +instances only
    rw [if_neg (nI_ge hk (by omega)), h3, Option.bind_some, z_1, nI_add]
    exact ⟨_, rfl, r3, rfl, h4⟩
  · obtain ⟨r2, rfl, h2⟩ := hI
    dsimp +instances only
    rw [if_pos (nI_le (Nat.le_refl _) (by omega))]
    exact ⟨_, rfl, h2⟩
theorem e2_pass (n : Nat) (hn : 100 ≤ n) {N : Nat} (hN : N ≤ 60) {water wall : Int64} {paths kind place facing age : Nat → Int32} {q : Nat → Nat} {b : Nat} (hp : RP paths q) (hw : RS water q 1) (hx : RS wall q 2) (hk : RF kind q 0) (hl : RF place q 1) (hf : RF facing q 2) (ha : RF age q 3) (hv : IV b q) (hb : b < 99000) :
    ∃ v, fX2_pass n (nI N) paths water wall kind place facing age (nI (q 1)) (nI (q 0)) = some v ∧ RP v.1 (its N q) ∧ RF v.2.1 (its N q) 1 ∧ RF v.2.2.1 (its N q) 2 ∧ RF v.2.2.2.1 (its N q) 3 ∧ v.2.2.2.2 = nI (its N q 0) := by
  unfold fX2_pass
  refine lpx (fun k s => ∃ P L F A, s = (nI k, P, L, F, A, nI (its k q 0)) ∧ RP P (its k q) ∧ RF L (its k q) 1 ∧ RF F (its k q) 2 ∧ RF A (its k q) 3) N (fun v => RP v.2.1 (its N q) ∧ RF v.2.2.1 (its N q) 1 ∧ RF v.2.2.2.1 (its N q) 2 ∧ RF v.2.2.2.2.1 (its N q) 3 ∧ v.2.2.2.2.2 = nI (its N q 0)) ⟨_, _, _, _, rfl, hp, hl, hf, ha⟩ (fun k s hk2 hI => ?_) (fun s hI => ?_) (by omega) (fun v hX => ⟨_, rfl, hX⟩)
  · obtain ⟨P, L, F, A, rfl, i1, i2, i3, i4⟩ := hI
    obtain ⟨j1, j2, j3, j4, j5⟩ := its_k hv k
    have j0 := j1.1
    dsimp +instances only
    rw [if_neg (nI_ge hk2 (by omega))]
    refine exl ?_
    refine lpxb (fun i => (nI i, fun c => if c < i then nI (its k q (49 + c) - 1) else P c)) 36 (nI 36, fun c => if c < 36 then nI (its k q (49 + c) - 1) else P c) ?_ (fun i hi => ?_) rfl (by omega) ?_
    · have : (fun c => if c < 0 then nI (its k q (49 + c) - 1) else P c) = P := funext fun c => if_neg (by omega)
      rw [this]; rfl
    · have e1 : (if i < i then nI (its k q (49 + i) - 1) else P i) = nI (its k q (49 + i)) := by rw [if_neg (by omega), i1 i hi]
      have eU : upd (fun c => if c < i then nI (its k q (49 + c) - 1) else P c) i (nI (its k q (49 + i) - 1)) = fun c => if c < i + 1 then nI (its k q (49 + c) - 1) else P c := by
        funext c
        by_cases ec : c = i
        · subst ec; rw [upd_T rfl, if_pos (by omega)]
        · rw [upd_F (by omega)]
          by_cases h : c < i
          · rw [if_pos h, if_pos (by omega)]
          · rw [if_neg h, if_neg (by omega)]
      have hc := (j1.2.2.1 i hi).1
      dsimp +instances only
      rw [if_neg (show ¬ (36 : Int32) ≤ nI i from nI_ge (a := i) (b := 36) hi (by decide)), if_pos (vi_N hi (by decide)), if_pos (vi_N hi (by decide)), nI_clamp (by omega), e1, t_fade _ (by omega), eU, z_1, nI_add]
    have i1' : RP (fun c => if c < 36 then nI (its k q (49 + c) - 1) else P c) (fade (its k q)) := by
      intro c hc
      show (if c < 36 then _ else _) = _
      rw [if_pos hc]; unfold fade; rw [if_pos (by omega)]
    have i2' : RF L (fade (its k q)) 1 := i2.eq fun s hs => fade_at (by omega)
    have i3' : RF F (fade (its k q)) 2 := i3.eq fun s hs => fade_at (by omega)
    have i4' : RF A (fade (its k q)) 3 := i4.eq fun s hs => fade_at (by omega)
    have hvF := IV_fade j1
    have hw' : RS water (fade (its k q)) 1 := hw.eq fun c hc => by rw [fade_at (by omega), j4 c hc]
    have hx' : RS wall (fade (its k q)) 2 := hx.eq fun c hc => by rw [fade_at (by omega), j4 c hc]
    have hk' : RF kind (fade (its k q)) 0 := hk.eq fun s hs => by rw [fade_at (by omega)]; exact j5 s
    have hq1 : fade (its k q) 1 = q 1 := by rw [fade_at (by omega), j2]
    have hq0 : fade (its k q) 0 = its k q 0 := fade_at (by omega)
    generalize (fun c => if c < 36 then nI (its k q (49 + c) - 1) else P c) = P1 at i1' ⊢
    dsimp +instances only
    refine lpx (fun i s => ∃ P L F A, s = (nI i, P, L, F, A) ∧ RP P (it gstep i (fade (its k q))) ∧ RF L (it gstep i (fade (its k q))) 1 ∧ RF F (it gstep i (fade (its k q))) 2 ∧ RF A (it gstep i (fade (its k q))) 3) (q 1) (fun v => RP v.2.1 (grown (its k q)) ∧ RF v.2.2.1 (grown (its k q)) 1 ∧ RF v.2.2.2.1 (grown (its k q)) 2 ∧ RF v.2.2.2.2 (grown (its k q)) 3) ⟨_, _, _, _, rfl, i1', i2', i3', i4'⟩ (fun i s hi hI => ?_) (fun s hI => ?_) (by have := hv.1; omega) (fun v hX => ?_)
    · obtain ⟨P, L, F, A, rfl, a1, a2, a3, a4⟩ := hI
      have h8 := hv.1
      obtain ⟨g1, g2⟩ := it_lo hvF i (by omega)
      have g3 := it_kd hvF i (by omega)
      have w1 : RS water (it gstep i (fade (its k q))) 1 := hw'.eq fun c hc => g2 _ (by omega)
      have x1 : RS wall (it gstep i (fade (its k q))) 2 := hx'.eq fun c hc => g2 _ (by omega)
      have k1 : RF kind (it gstep i (fade (its k q))) 0 := hk'.eq fun s hs => g3 s
      have q1 : it gstep i (fade (its k q)) 1 = q 1 := (g2 1 (by decide)).trans hq1
      have q0 : it gstep i (fade (its k q)) 0 = its k q 0 := (g2 0 (by decide)).trans hq0
      dsimp +instances only
      rw [if_neg (nI_ge hi (by omega)), e2_seedAt n hi (by omega), Option.bind_some, Option.elim_some, e3_isAlive n k1 a4 g1 (by omega), Option.bind_some]
      by_cases hal : aliv (it gstep i (fade (its k q))) i = true
      · obtain ⟨P2, L2, F2, A2, h3, b1, b2, b3, b4⟩ := e2_advance n (by omega) (j := i) a1 w1 x1 k1 a2 a3 a4 g1 (by omega) (by omega)
        rw [q1, q0] at h3
        rw [if_pos hal, if_neg (by decide), h3, Option.bind_some, z_1, nI_add]
        refine ⟨_, rfl, P2, L2, F2, A2, rfl, ?_⟩
        show RP P2 (gstep i _) ∧ RF L2 (gstep i _) 1 ∧ RF F2 (gstep i _) 2 ∧ RF A2 (gstep i _) 3
        rw [gstep_T hal]; exact ⟨b1, b2, b3, b4⟩
      · rw [if_neg hal, if_pos (by rfl), z_1, nI_add]
        refine ⟨_, rfl, P, L, F, A, rfl, ?_⟩
        show RP P (gstep i _) ∧ RF L (gstep i _) 1 ∧ RF F (gstep i _) 2 ∧ RF A (gstep i _) 3
        rw [gstep_F hal]; exact ⟨a1, a2, a3, a4⟩
    · obtain ⟨P, L, F, A, rfl, a1, a2, a3, a4⟩ := hI
      have h8 := hv.1
      dsimp +instances only
      rw [if_pos (nI_le (Nat.le_refl _) (by omega))]
      have : it gstep (q 1) (fade (its k q)) = grown (its k q) := by unfold grown; rw [j2]
      rw [this] at a1 a2 a3 a4
      exact ⟨_, rfl, a1, a2, a3, a4⟩
    · obtain ⟨a1, a2, a3, a4⟩ := hX
      have h02 := hv.2.1
      have hs : its k q 0 + 1 < 99999 := by omega
      rw [z_1, nI_add, nI_add, if_neg (show ¬ (99999 : Int32) < nI (its k q 0 + 1) from nI_nlt (a := 99999) (b := its k q 0 + 1) (by omega) (by decide))]
      refine ⟨_, rfl, _, rfl, v.2.1, v.2.2.1, v.2.2.2.1, v.2.2.2.2, ?_, ?_, ?_, ?_, ?_⟩
      · rw [its_s]; unfold ssn; rw [upq_T rfl]
      · exact a1.eq fun c hc => by rw [its_s]; unfold ssn; rw [upq_F (by omega)]
      · exact a2.eq fun c hc => by rw [its_s]; unfold ssn; rw [upq_F (by omega)]
      · exact a3.eq fun c hc => by rw [its_s]; unfold ssn; rw [upq_F (by omega)]
      · exact a4.eq fun c hc => by rw [its_s]; unfold ssn; rw [upq_F (by omega)]
  · obtain ⟨P, L, F, A, rfl, a1, a2, a3, a4⟩ := hI
    dsimp +instances only
    rw [if_pos (nI_le (Nat.le_refl _) (by omega))]
    exact ⟨_, rfl, a1, a2, a3, a4, rfl⟩
