/-! the reference's walk: a queue -/
def WI (p : Nat → Bool) (a k h : Nat) (D Q : Nat → Nat) (m : Nat) : Prop :=
  (∀ c, c < 36 → D c ≤ 36 ∧ (D c < 36 → spk p (one p a) (D c) c = true)) ∧
  m = ct (fun c => decide (D c < 36)) 36 ∧
  (∀ i, i < m → Q i < 36 ∧ D (Q i) < 36 ∧ D (Q i) ≤ i) ∧
  (∀ c, c < 36 → D c < 36 → ∃ i, i < m ∧ Q i = c) ∧
  (∀ i j, i ≤ j → j < m → D (Q i) ≤ D (Q j)) ∧
  (k < m → ∀ c, c < 36 → D c < 36 → D c ≤ D (Q k) + 1) ∧
  (∀ i, i < m → ∀ g, g < 4 → (i < k ∨ (i = k ∧ g < h)) → p (nbc (Q i) g) = true → nbc (Q i) g < 36 → D (nbc (Q i) g) ≤ D (Q i) + 1) ∧
  (p a = true → D a = 0)
theorem WI.skip {p : Nat → Bool} {a k h : Nat} {D Q : Nat → Nat} {m : Nat} (w : WI p a k h D Q m) (hk : k < m) (hs : nbc (Q k) h < 36 → p (nbc (Q k) h) = true → D (nbc (Q k) h) < 36) : WI p a k (h + 1) D Q m := by
  obtain ⟨w1, w2, w3, w4, w5, w6, w7, w8⟩ := w
  refine ⟨w1, w2, w3, w4, w5, w6, fun i hi g hg hc hp h36 => ?_, w8⟩
  by_cases e : i = k ∧ g = h
  · obtain ⟨rfl, rfl⟩ := e
    exact w6 hk _ h36 (hs h36 hp)
  · exact w7 i hi g hg (by omega) hp h36
theorem ct_upq {D : Nat → Nat} {t v : Nat} (ht : t < 36) (h36 : ¬ D t < 36) (hv : v < 36) : ct (fun c => decide (upq D t v c < 36)) 36 = ct (fun c => decide (D c < 36)) 36 + 1 := by
  have key : ∀ n, ct (fun c => decide (upq D t v c < 36)) n = ct (fun c => decide (D c < 36)) n + (if t < n then 1 else 0) := by
    intro n
    induction n with
    | zero => rfl
    | succ n ih =>
      rw [ct, ih, ct]
      by_cases e : n = t
      · subst e
        rw [upq_T rfl]
        simp [hv, h36]
      · rw [upq_F (by omega)]
        by_cases e2 : t < n
        · rw [if_pos e2, if_pos (show t < n + 1 by omega)]; omega
        · rw [if_neg e2, if_neg (show ¬ t < n + 1 by omega)]; rfl
  have := key 36
  rwa [if_pos ht] at this
theorem WI.room {p : Nat → Bool} {a k h : Nat} {D Q : Nat → Nat} {m : Nat} (w : WI p a k h D Q m) {t : Nat} (ht : t < 36) (hD : ¬ D t < 36) : m < 36 := by
  have h1 : ct (fun c => decide (D c < 36)) 36 < ct (fun _ => true) 36 := ct_mono_lt (fun _ _ => rfl) ht rfl (by simp [hD])
  have h2 := ct_le (fun _ => true) 36
  have := w.2.1
  omega
theorem WI.push {p : Nat → Bool} {a k h : Nat} {D Q : Nat → Nat} {m : Nat} (w : WI p a k h D Q m) (hk : k < m) (hh : h < 4) (ht : nbc (Q k) h < 36) (hp : p (nbc (Q k) h) = true) (hD : ¬ D (nbc (Q k) h) < 36) :
    WI p a k (h + 1) (upq D (nbc (Q k) h) (D (Q k) + 1)) (upq Q m (nbc (Q k) h)) (m + 1) ∧ D (Q k) + 1 < 36 := by
  have hm := w.room ht hD
  obtain ⟨w1, w2, w3, w4, w5, w6, w7, w8⟩ := w
  have hQk := w3 k hk
  have hd : D (Q k) + 1 < 36 := by omega
  generalize hte : nbc (Q k) h = t at *
  have hne : ∀ i, i < m → Q i ≠ t := fun i hi e => hD (by rw [← e]; exact (w3 i hi).2.1)
  have uD : ∀ i, i < m → upq D t (D (Q k) + 1) (upq Q m t i) = D (Q i) := fun i hi => by
    rw [upq_F (f := Q) (by omega)]
    have := hne i hi
    rw [upq_F (by omega)]
  have uQ : ∀ i, i < m → upq Q m t i = Q i := fun i hi => upq_F (by omega)
  have uDm : upq D t (D (Q k) + 1) (upq Q m t m) = D (Q k) + 1 := by rw [upq_T (f := Q) rfl, upq_T rfl]
  refine ⟨⟨fun c hc => ?_, ?_, fun i hi => ?_, fun c hc hcD => ?_, fun i j hij hj => ?_, fun _ c hc hcD => ?_, fun i hi g hg hc hpp h36 => ?_, fun hpa => ?_⟩, hd⟩
  · by_cases e : c = t
    · subst e
      rw [upq_T rfl]
      refine ⟨by omega, fun _ => ?_⟩
      have h4 := (w1 (Q k) hQk.1).2 hQk.2.1
      exact spk_step hp (nbc_sym ht hQk.1 ⟨h, hh, hte⟩) hQk.1 h4
    · rw [upq_F (by omega)]; exact w1 c hc
  · rw [ct_upq ht hD hd, ← w2]
  · by_cases e : i = m
    · subst e
      rw [uDm, upq_T rfl]
      exact ⟨ht, hd, by omega⟩
    · rw [uD i (by omega), uQ i (by omega)]; exact w3 i (by omega)
  · by_cases e : c = t
    · exact ⟨m, by omega, by rw [upq_T rfl, e]⟩
    · rw [upq_F (by omega)] at hcD
      obtain ⟨i, h1, h2⟩ := w4 c hc hcD
      exact ⟨i, by omega, by rw [uQ i h1]; exact h2⟩
  · by_cases e : j = m
    · subst e
      rw [uDm]
      by_cases e2 : i = j
      · subst e2; rw [uDm]; exact Nat.le_refl _
      · rw [uD i (by omega)]
        exact w6 hk _ (w3 i (by omega)).1 (w3 i (by omega)).2.1
    · rw [uD i (by omega), uD j (by omega)]; exact w5 i j hij (by omega)
  · rw [uD k hk]
    by_cases e : c = t
    · subst e; rw [upq_T rfl]; exact Nat.le_refl _
    · rw [upq_F (by omega)] at hcD ⊢
      exact w6 hk c hc hcD
  · have hi' : i < m := by omega
    rw [uQ i hi'] at hpp h36 ⊢
    have hDi : upq D t (D (Q k) + 1) (Q i) = D (Q i) := by have := hne i hi'; exact upq_F (by omega)
    rw [hDi]
    by_cases e : nbc (Q i) g = t
    · rw [e, upq_T rfl]
      by_cases e2 : i = k
      · subst e2; exact Nat.le_refl _
      · have h3 := w7 i hi' g hg (Or.inl (by omega)) hpp h36
        rw [e] at h3
        have := w3 i hi'
        have h5 := (w1 t ht).1
        omega
    · rw [upq_F (by omega)]
      by_cases e2 : i = k ∧ g = h
      · obtain ⟨rfl, rfl⟩ := e2; exact absurd hte e
      · exact w7 i hi' g hg (by omega) hpp h36
  · have h0 := w8 hpa
    have : a ≠ t := fun e => hD (by rw [← e, h0]; decide)
    rw [upq_F (by omega)]; exact h0
theorem WI.next {p : Nat → Bool} {a k : Nat} {D Q : Nat → Nat} {m : Nat} (w : WI p a k 4 D Q m) (hk : k < m) : WI p a (k + 1) 0 D Q m := by
  obtain ⟨w1, w2, w3, w4, w5, w6, w7, w8⟩ := w
  refine ⟨w1, w2, w3, w4, w5, fun h1 c hc hcD => ?_, fun i hi g hg hc hp h36 => w7 i hi g hg (by omega) hp h36, w8⟩
  have h2 := w6 hk c hc hcD
  have h3 := w5 k (k + 1) (by omega) h1
  omega
theorem WI.end_ {p : Nat → Bool} {a k : Nat} {D Q : Nat → Nat} {m : Nat} (w : WI p a k 0 D Q m) (hk : m ≤ k) : ∀ c, c < 36 → D c = dsk p a c := by
  obtain ⟨w1, w2, w3, w4, w5, w6, w7, w8⟩ := w
  have cp : ∀ j c, c < 36 → spk p (one p a) j c = true → D c ≤ j := by
    intro j
    induction j with
    | zero =>
      intro c hc h
      have h' : one p a c = true := h
      unfold one at h'
      simp only [Bool.and_eq_true, decide_eq_true_eq] at h'
      obtain ⟨rfl, h2⟩ := h'
      rw [w8 h2]; exact Nat.le_refl _
    | succ j ih =>
      intro c hc h
      rcases spx_iff.mp h with h | ⟨h2, h3⟩
      · have := ih c hc h; omega
      · obtain ⟨g, g1, g2, g3⟩ := nb4_iff.mp h3
        have h4 := ih _ g2 g3
        by_cases hj : j < 36
        · obtain ⟨i, i1, i2⟩ := w4 _ g2 (by omega)
          obtain ⟨g', k1, k2⟩ := nbc_sym g2 hc ⟨g, g1, rfl⟩
          have h5 := w7 i i1 g' k1 (Or.inl (by omega)) (by rw [i2, k2]; exact h2) (by rw [i2, k2]; exact hc)
          rw [i2, k2] at h5
          omega
        · have := (w1 c hc).1; omega
  intro c hc
  obtain ⟨h1, h2⟩ := w1 c hc
  by_cases e : D c < 36
  · exact (dsk_is e (h2 e) (fun j hj h => by have := cp j c hc h; omega)).symm
  · have e36 : D c = 36 := by omega
    rw [dsk_no hc (fun hj => ?_), e36]
    have h3 := dsk_jn hc hj
    have h4 := fs_yes (fun k => spk p (one p a) k c) 36 h3
    have := cp _ c hc h4
    unfold dsk at h3
    omega
theorem WI_none (p : Nat → Bool) (a : Nat) (h : ¬ p a = true) (Q : Nat → Nat) : WI p a 0 0 (fun _ => 36) Q 0 :=
  ⟨fun c _ => ⟨Nat.le_refl 36, fun h => absurd h (Nat.lt_irrefl 36)⟩, (ct_none fun i _ => decide_eq_false (Nat.lt_irrefl 36)).symm, fun i hi => absurd hi (Nat.not_lt_zero _), fun c _ h => absurd h (Nat.lt_irrefl 36), fun i j _ hj => absurd hj (Nat.not_lt_zero _), fun h => absurd h (Nat.not_lt_zero _), fun i hi => absurd hi (Nat.not_lt_zero _), fun h2 => absurd h2 h⟩
theorem WI_one (p : Nat → Bool) {a : Nat} (ha : a < 36) (h : p a = true) : WI p a 0 0 (upq (fun _ => 36) a 0) (fun _ => a) 1 := by
  refine ⟨fun c hc => ?_, ?_, fun i hi => ⟨ha, by rw [upq_T rfl]; decide, by rw [upq_T rfl]; omega⟩, fun c hc hcD => ⟨0, by decide, ?_⟩, fun i j _ _ => Nat.le_refl _, fun _ c hc hcD => ?_, fun i hi g hg hc => by omega, fun _ => upq_T rfl⟩
  · by_cases e : c = a
    · subst e; rw [upq_T rfl]; exact ⟨by omega, fun _ => by show one p c c = true; unfold one; simp [h]⟩
    · rw [upq_F (by omega)]; exact ⟨by omega, fun h => absurd h (by decide)⟩
  · rw [ct_upq ha (by decide) (by decide), ct_none fun i _ => by decide]
  · by_cases e : c = a
    · exact e.symm
    · rw [upq_F (by omega)] at hcD; exact absurd hcD (by decide)
  · by_cases e : c = a
    · subst e; exact Nat.le_succ _
    · rw [upq_F (by omega)] at hcD; exact absurd hcD (Nat.lt_irrefl 36)
def WL (D Q : Nat → Nat) (m : Nat) (st qu : Nat → Int32) : Prop := (∀ c, c < 36 → st c = nbI (D c)) ∧ ∀ i, i < m → qu i = nI (Q i)
theorem e7_wk (n : Nat) (hn : 100 ≤ n) {r : Nat → Int32} {q : Nat → Nat} {e : Nat → Int32} {b a : Nat} (hr : RM r q e) (hv : IV b q) {D Q : Nat → Nat} {m : Nat} {st qu : Nat → Int32} (hW : WI (hp q) a 0 0 D Q m) (hL : WL D Q m st qu) :
    ∃ v, lp (fun (s8 : Int32 × Int32 × (Nat → Int32) × (Nat → Int32)) => ((if s8.1 ≤ s8.2.1 then some (.inr (s8.1, s8.2.1, s8.2.2.1, s8.2.2.2)) else ((lp (fun (s11 : Int32 × Int32 × (Nat → Int32) × (Nat → Int32)) => ((if (4 : Int32) ≤ s11.2.1 then some (.inr (s11.1, s11.2.1, s11.2.2.1, s11.2.2.2)) else (if vi s8.2.1 36 then ((fX7_beside n (s11.2.2.2 s8.2.1.toNatClampNeg) s11.2.1).bind (fun q15 => (if q15 < 0 then some (.inl (s11.1, (s11.2.1 + (1 : Int32)), s11.2.2.1, s11.2.2.2)) else ((fX7_hasPath n q15 r).bind (fun q18 => (if q18 = 0 then some (.inl (s11.1, (s11.2.1 + (1 : Int32)), s11.2.2.1, s11.2.2.2)) else (if vi q15 36 then (if 0 ≤ (s11.2.2.1 q15.toNatClampNeg) then some (.inl (s11.1, (s11.2.1 + (1 : Int32)), s11.2.2.1, s11.2.2.2)) else (if vi s8.2.1 36 then (if vi (s11.2.2.2 s8.2.1.toNatClampNeg) 36 then (if vi q15 36 then (if vi s11.1 36 then some (.inl ((s11.1 + (1 : Int32)), (s11.2.1 + (1 : Int32)), (upd s11.2.2.1 q15.toNatClampNeg ((s11.2.2.1 (s11.2.2.2 s8.2.1.toNatClampNeg).toNatClampNeg) + (1 : Int32))), (upd s11.2.2.2 s11.1.toNatClampNeg q15))) else none) else none) else none) else none)) else none))))))) else none)) : Option ((Int32 × Int32 × (Nat → Int32) × (Nat → Int32)) ⊕ (Int32 × Int32 × (Nat → Int32) × (Nat → Int32))))) n (s8.1, (0 : Int32), s8.2.2.1, s8.2.2.2)).bind (fun (v12 : Int32 × Int32 × (Nat → Int32) × (Nat → Int32)) => some (.inl (v12.1, (s8.2.1 + (1 : Int32)), v12.2.2.1, v12.2.2.2))))) : Option ((Int32 × Int32 × (Nat → Int32) × (Nat → Int32)) ⊕ (Int32 × Int32 × (Nat → Int32) × (Nat → Int32))))) n (nI m, (0 : Int32), st, qu) = some v ∧ ∀ c, c < 36 → v.2.2.1 c = nbI (dsk (hp q) a c) := by
  refine lp_ms (fun s => ∃ k D Q m st qu, k ≤ m ∧ s = (nI m, nI k, st, qu) ∧ WI (hp q) a k 0 D Q m ∧ WL D Q m st qu) (fun s => 36 - s.2.1.toNatClampNeg) _ ?_ n _ ⟨0, D, Q, m, st, qu, Nat.zero_le _, rfl, hW, hL⟩ (by omega)
  clear hW hL
  rintro s ⟨k, D, Q, m, st, qu, hkm, rfl, w, hL⟩
  have hm36 : m ≤ 36 := by rw [w.2.1]; exact ct_le _ 36
  dsimp +instances only
  by_cases hk : k < m
  · rw [if_neg (nI_ge hk (by omega))]
    refine Or.inr ?_
    suffices h : ∃ y, (lp (fun (s11 : Int32 × Int32 × (Nat → Int32) × (Nat → Int32)) => ((if (4 : Int32) ≤ s11.2.1 then some (.inr (s11.1, s11.2.1, s11.2.2.1, s11.2.2.2)) else (if vi (nI k) 36 then ((fX7_beside n (s11.2.2.2 (nI k).toNatClampNeg) s11.2.1).bind (fun q15 => (if q15 < 0 then some (.inl (s11.1, (s11.2.1 + (1 : Int32)), s11.2.2.1, s11.2.2.2)) else ((fX7_hasPath n q15 r).bind (fun q18 => (if q18 = 0 then some (.inl (s11.1, (s11.2.1 + (1 : Int32)), s11.2.2.1, s11.2.2.2)) else (if vi q15 36 then (if 0 ≤ (s11.2.2.1 q15.toNatClampNeg) then some (.inl (s11.1, (s11.2.1 + (1 : Int32)), s11.2.2.1, s11.2.2.2)) else (if vi (nI k) 36 then (if vi (s11.2.2.2 (nI k).toNatClampNeg) 36 then (if vi q15 36 then (if vi s11.1 36 then some (.inl ((s11.1 + (1 : Int32)), (s11.2.1 + (1 : Int32)), (upd s11.2.2.1 q15.toNatClampNeg ((s11.2.2.1 (s11.2.2.2 (nI k).toNatClampNeg).toNatClampNeg) + (1 : Int32))), (upd s11.2.2.2 s11.1.toNatClampNeg q15))) else none) else none) else none) else none)) else none))))))) else none)) : Option ((Int32 × Int32 × (Nat → Int32) × (Nat → Int32)) ⊕ (Int32 × Int32 × (Nat → Int32) × (Nat → Int32))))) n (nI m, (0 : Int32), st, qu)).bind (fun (v12 : Int32 × Int32 × (Nat → Int32) × (Nat → Int32)) => (some (.inl (v12.1, ((nI k) + (1 : Int32)), v12.2.2.1, v12.2.2.2)) : Option ((Int32 × Int32 × (Nat → Int32) × (Nat → Int32)) ⊕ (Int32 × Int32 × (Nat → Int32) × (Nat → Int32))))) = some y ∧ ∃ s', y = .inl s' ∧ ((∃ k D Q m st qu, k ≤ m ∧ s' = (nI m, nI k, st, qu) ∧ WI (hp q) a k 0 D Q m ∧ WL D Q m st qu) ∧ 36 - s'.2.1.toNatClampNeg < 36 - (nI k).toNatClampNeg) by
      obtain ⟨s', h1, h2, h3⟩ := exl h
      exact ⟨s', h1, h2, h3⟩
    refine lpx (fun h s => ∃ D Q m st qu, k < m ∧ s = (nI m, nI h, st, qu) ∧ WI (hp q) a k h D Q m ∧ WL D Q m st qu) 4 (fun v => ∃ D Q m, k < m ∧ v.1 = nI m ∧ WI (hp q) a k 4 D Q m ∧ WL D Q m v.2.2.1 v.2.2.2) ⟨D, Q, m, st, qu, hk, rfl, w, hL⟩ (fun h s hh hI => ?_) (fun s hI => ?_) (by omega) (fun v hX => ?_)
    · clear w hL hk hkm hm36
      obtain ⟨D, Q, m, st, qu, hk, rfl, w, hL⟩ := hI
      have hm36 : m ≤ 36 := by rw [w.2.1]; exact ct_le _ 36
      have hQ := w.2.2.1 k hk
      have hnb := nbc_le (Q k) h hQ.1
      dsimp +instances only
      have hvk : vi (nI k) 36 := vi_N (by omega) (by decide)
      have hvq : vi (nI (Q k)) 36 := vi_N hQ.1 (by decide)
      rw [if_neg (Kle_F z_4 hh (by decide))]
      simp only [if_pos hvk, nI_clamp (show k < 2 ^ 31 by omega), hL.2 k hk, if_pos hvq, nI_clamp (show Q k < 2 ^ 31 by omega)]
      rw [e_beside n hQ.1 hh, Option.bind_some]
      by_cases g1 : nbc (Q k) h < 36
      · rw [nbI_T g1, if_neg (nI_pos (by omega)), e7_hasPath n hr hv g1, Option.bind_some]
        by_cases g2 : hp q (nbc (Q k) h) = true
        · have hvn : vi (nI (nbc (Q k) h)) 36 := vi_N g1 (by decide)
          rw [if_neg (b01_T g2)]
          simp only [if_pos hvn, nI_clamp (show nbc (Q k) h < 2 ^ 31 by omega), hL.1 _ g1]
          by_cases g3 : D (nbc (Q k) h) < 36
          · rw [nbI_T g3, if_pos (nI_pos' (by omega)), z_1, nI_add]
            exact ⟨_, rfl, D, Q, m, st, qu, hk, rfl, w.skip hk (fun _ _ => g3), hL⟩
          · have hm := w.room g1 g3
            obtain ⟨w', hd⟩ := w.push hk hh g1 g2 g3
            rw [nbI_F (by omega), if_neg (by decide), if_pos (vi_N hm (by decide)), nI_clamp (by omega), hL.1 _ hQ.1, nbI_T (by omega), z_1, nI_add, nI_add, nI_add]
            refine ⟨_, rfl, _, _, _, _, _, by omega, rfl, w', fun c hc => ?_, fun i hi => ?_⟩
            · by_cases ec : c = nbc (Q k) h
              · subst ec; rw [upd_T rfl, upq_T rfl, nbI_T hd]
              · rw [upd_F (by omega), upq_F (by omega)]; exact hL.1 c hc
            · by_cases ei : i = m
              · subst ei; rw [upd_T rfl, upq_T rfl]
              · rw [upd_F (by omega), upq_F (by omega)]; exact hL.2 i (by omega)
        · rw [if_pos (b01_F g2), z_1, nI_add]
          exact ⟨_, rfl, D, Q, m, st, qu, hk, rfl, w.skip hk (fun _ h2 => absurd h2 g2), hL⟩
      · rw [nbI_F (by omega), if_pos (by decide), z_1, nI_add]
        exact ⟨_, rfl, D, Q, m, st, qu, hk, rfl, w.skip hk (fun h1 _ => absurd h1 g1), hL⟩
    · obtain ⟨D, Q, m, st, qu, hk, rfl, w, hL⟩ := hI
      exact ⟨_, rfl, D, Q, m, hk, rfl, w, hL⟩
    · obtain ⟨D, Q, m, hk, h1, w, hL⟩ := hX
      have hm36 : m ≤ 36 := by rw [w.2.1]; exact ct_le _ 36
      refine ⟨_, rfl, _, rfl, ⟨k + 1, D, Q, m, _, _, hk, by rw [h1, z_1, nI_add], w.next hk, hL⟩, ?_⟩
      show 36 - (nI k + 1).toNatClampNeg < 36 - (nI k).toNatClampNeg
      rw [z_1, nI_add, nI_clamp (by omega), nI_clamp (by omega)]; omega
  · have : k = m := by omega
    subst this
    rw [if_pos (nI_le (Nat.le_refl _) (by omega))]
    exact Or.inl ⟨_, rfl, fun c hc => by rw [← w.end_ (Nat.le_refl _) c hc]; exact hL.1 c hc⟩
theorem e7_walk (n : Nat) (hn : 100 ≤ n) {r steps queue : Nat → Int32} {q : Nat → Nat} {e : Nat → Int32} {b a : Nat} (hr : RM r q e) (hv : IV b q) (ha : a < 36) :
    ∃ v, fX7_walk n (nI a) r steps queue = some v ∧ ∀ c, c < 36 → v.1 c = nbI (dsk (hp q) a c) := by
  unfold fX7_walk
  refine lpxb (fun k => (nI k, fun i => if i < k then m1 else steps i)) 36 (nI 36, fun i => if i < 36 then m1 else steps i) ?_ (fun k hk => ?_) rfl (by omega) ?_
  · have : (fun i => if i < 0 then m1 else steps i) = steps := funext fun i => if_neg (by omega)
    rw [this]; rfl
  · have eU : upd (fun i => if i < k then m1 else steps i) k m1 = fun i => if i < k + 1 then m1 else steps i := by
      funext i
      by_cases e : i = k
      · subst e; rw [upd_T rfl, if_pos (by omega)]
      · rw [upd_F (by omega)]
        by_cases h : i < k
        · rw [if_pos h, if_pos (by omega)]
        · rw [if_neg h, if_neg (by omega)]
    dsimp +instances only
    rw [if_neg (Kle_F z_36 hk (by decide)), if_pos (vi_N hk (by decide)), nI_clamp (by omega), z_m1, eU, z_1, nI_add]
  · dsimp +instances only
    rw [e7_hasPath n hr hv ha, Option.bind_some]
    by_cases h : hp q a = true
    · rw [if_neg (b01_T h), if_pos (vi_N ha (by decide)), nI_clamp (by omega)]
      obtain ⟨v, h1, h2⟩ := e7_wk n hn (a := a) hr hv (st := upd (fun i => if i < 36 then m1 else steps i) a (0 : Int32)) (qu := upd queue (0 : Int32).toNatClampNeg (nI a)) (WI_one (hp q) ha h) ⟨fun c hc => by
          by_cases e : c = a
          · subst e; rw [upd_T rfl, upq_T rfl]; rfl
          · rw [upd_F (by omega), upq_F (by omega), nbI_F (by omega)]; exact if_pos hc, fun i hi => by
          have : i = 0 := by omega
          subst this; exact upd_T rfl⟩
      have h1' := h1
      rw [show nI 1 = (1 : Int32) from rfl] at h1'
      rw [h1']
      exact ⟨_, rfl, h2⟩
    · rw [if_pos (b01_F h)]
      obtain ⟨v, h1, h2⟩ := e7_wk n hn (a := a) hr hv (st := fun i => if i < 36 then m1 else steps i) (qu := queue) (WI_none (hp q) a h (fun _ => 0)) ⟨fun c hc => by rw [nbI_F (Nat.le_refl 36)]; exact if_pos hc, fun i hi => absurd hi (Nat.not_lt_zero _)⟩
      have h1' := h1
      rw [show nI 0 = (0 : Int32) from rfl] at h1'
      rw [h1']
      exact ⟨_, rfl, h2⟩
theorem nbI_neg {v : Nat} : (nbI v < 0) = ¬ v < 36 := propext (by
  by_cases h : v < 36
  · rw [nbI_T h]; exact ⟨fun h1 => absurd h1 (nI_pos (by omega)), fun h1 => absurd h h1⟩
  · rw [nbI_F (by omega)]; exact ⟨fun _ => h, fun _ => by decide⟩)
theorem dsk_iff {p : Nat → Bool} {a c : Nat} (hc : c < 36) : dsk p a c < 36 ↔ jn p a c = true := by
  constructor
  · intro h
    apply Classical.byContradiction
    intro h2
    have := dsk_no hc h2
    omega
  · exact dsk_jn hc
theorem e7_areJoined (n : Nat) (hn : 100 ≤ n) {r steps queue : Nat → Int32} {q : Nat → Nat} {e : Nat → Int32} {b a c : Nat} (hr : RM r q e) (hv : IV b q) (ha : a < 36) (hc : c < 36) :
    ∃ v, fX7_areJoined n (nI a) (nI c) r steps queue = some v ∧ v.1 = if jn (hp q) a c = true then nI 1 else nI 0 := by
  obtain ⟨v, h1, h2⟩ := e7_walk n hn (steps := steps) (queue := queue) hr hv ha
  unfold fX7_areJoined
  rw [h1, Option.bind_some, if_pos (vi_N hc (by decide)), nI_clamp (by omega), h2 c hc]
  by_cases h : jn (hp q) a c = true
  · rw [if_neg (by rw [nbI_neg, dsk_iff hc]; simp [h])]
    exact ⟨_, rfl, by rw [if_pos h]; rfl⟩
  · rw [if_pos (by rw [nbI_neg, dsk_iff hc]; exact h)]
    exact ⟨_, rfl, by rw [if_neg h]; rfl⟩
