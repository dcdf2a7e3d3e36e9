/-! words -/
def ln (i : Nat) : Nat := lenS.getD i 0
def chr (i k : Nat) : Int32 := (bytS.getD i []).getD k 0
theorem t_ln : ∀ i, i < 16 → 0 < ln i ∧ ln i < 10 := by decide +kernel
theorem t_words : ∀ i, i < 16 → ∀ j, j < 16 → i ≠ j → ln i = ln j → ∃ k, k < ln i ∧ chr i k ≠ chr j k := by decide +kernel
theorem e0_len (n i : Nat) : fJ0_length n i = some (nI (ln i)) := rfl
theorem e0_chr (n : Nat) {i k : Nat} (hi : i < 16) (hk : k < ln i) : fJ0_charAt n i (nI k) = some (chr i k) := by
  have := t_ln i hi
  unfold fJ0_charAt
  rw [if_pos (show vi (nI k) (lenS.getD i 0) from vi_N hk (show ln i < 2 ^ 31 by omega)), nI_clamp (by omega)]; rfl
/-- the token is word i -/
def wrd (tb : Nat → Int32) (s6 : Int32) (st en i : Nat) : Bool := decide (s6 = nI 1) && (decide (en - st = ln i) && al (fun k => decide (tb (st + k) = chr i k)) (ln i))
theorem wrd_one {tb : Nat → Int32} {s6 : Int32} {st en i j : Nat} (hi : i < 16) (hj : j < 16) (h1 : wrd tb s6 st en i = true) (h2 : wrd tb s6 st en j = true) : i = j := by
  apply Classical.byContradiction
  intro hne
  unfold wrd at h1 h2
  simp only [Bool.and_eq_true, decide_eq_true_eq] at h1 h2
  obtain ⟨-, l1, a1⟩ := h1
  obtain ⟨-, l2, a2⟩ := h2
  obtain ⟨k, hk, hd⟩ := t_words i hi j hj hne (l1.symm.trans l2)
  have b1 := al_iff.mp a1 k hk
  have b2 := al_iff.mp a2 k (by omega)
  simp only [decide_eq_true_eq] at b1 b2
  exact hd (b1.symm.trans b2)
theorem TK.sort {B : Nat → Nat} {L st en : Nat} {s6 v6 s7 v7 : Int32} (h : TK B L st en s6 v6 s7 v7) : (s6 = nI 1 ↔ s7 = nI 1) ∧ (s6 = nI 2 ↔ s7 = nI 2) ∧ (s6 = nI 0 ↔ s7 = nI 0) ∧ st ≤ en ∧ en ≤ L := by
  obtain ⟨h1, h2, h3⟩ := h
  have d : ∀ a b, a < 5 → b < 5 → (nI a = nI b ↔ a = b) := fun a b ha hb => nI_eq (by omega) (by omega)
  rcases h3 with ⟨rfl, rfl, -⟩ | ⟨rfl, rfl, -⟩ | ⟨rfl, rfl, -⟩ | ⟨rfl, rfl, -⟩ | ⟨rfl, rfl, -⟩ <;> simp only [d _ _ (show 0 < 5 by decide) (show 1 < 5 by decide), d _ _ (show 0 < 5 by decide) (show 2 < 5 by decide), d _ _ (show 1 < 5 by decide) (show 2 < 5 by decide), d _ _ (show 1 < 5 by decide) (show 0 < 5 by decide), d _ _ (show 2 < 5 by decide) (show 1 < 5 by decide), d _ _ (show 2 < 5 by decide) (show 0 < 5 by decide), d _ _ (show 3 < 5 by decide) (show 0 < 5 by decide), d _ _ (show 3 < 5 by decide) (show 1 < 5 by decide), d _ _ (show 3 < 5 by decide) (show 2 < 5 by decide), d _ _ (show 4 < 5 by decide) (show 0 < 5 by decide), d _ _ (show 4 < 5 by decide) (show 1 < 5 by decide), d _ _ (show 4 < 5 by decide) (show 2 < 5 by decide)] <;> refine ⟨?_, ?_, ?_, h1, h2⟩ <;> simp
theorem wordJ (n : Nat) (hn : 200 ≤ n) {mt tb : Nat → Int32} {B : Nat → Nat} {L st en : Nat} {s6 v6 s7 v7 : Int32} (h : BY tb mt B L) (hk : TK B L st en s6 v6 s7 v7) {i : Nat} (hi : i < 16) :
    fX5_isWord n i tb s6 (nI st) (nI en) = some (if wrd tb s6 st en i = true then nI 1 else nI 0) ∧ fX7_isWord n i mt (nI st) (nI en) s7 = some (if wrd tb s6 st en i = true then nI 1 else nI 0) := by
  obtain ⟨hs1, -, -, hle, heL⟩ := hk.sort
  have hL := h.1
  have hl := t_ln i hi
  have hsub : nI en - nI st = nI (en - st) := pk_sub hle
  have z0 : lp (fun (s2 : Int32 × Int32) => (((fJ0_length n i).bind (fun q4 => (if q4 ≤ s2.2 then some (.inr (s2.1, s2.2)) else (if s2.1 = 0 then some (.inr (s2.1, s2.2)) else (if vi ((nI st) + s2.2) 120 then ((fJ0_charAt n i s2.2).bind (fun q8 => (if (mt ((nI st) + s2.2).toNatClampNeg) = q8 then some (.inl ((1 : Int32), (s2.2 + (1 : Int32)))) else some (.inl ((0 : Int32), (s2.2 + (1 : Int32))))))) else none))))) : Option ((Int32 × Int32) ⊕ (Int32 × Int32)))) n ((0 : Int32), (0 : Int32)) = some ((0 : Int32), (0 : Int32)) := by
    obtain ⟨m, rfl⟩ : ∃ m, n = m + 1 := ⟨n - 1, by omega⟩
    rw [lp]
    dsimp +instances only
    rw [e0_len, Option.bind_some, if_neg (leK_F z_0 hl.1 (by omega)), if_pos rfl]; rfl
  have hb : ∀ {α : Type} (f : Int32 → Option α), (fJ0_length n i).bind f = f (nI (ln i)) := fun f => rfl
  unfold fX5_isWord fX7_isWord
  by_cases h1 : s6 = nI 1
  · have h7 := hs1.mp h1
    have h1' : s6 = 1 := h1
    have h7' : s7 = 1 := h7
    rw [if_pos h1', if_pos h7', hb, hb, hsub]
    by_cases hlen : en - st = ln i
    · rw [if_pos (show nI (ln i) = nI (en - st) from by rw [hlen]), if_pos (show nI (en - st) = nI (ln i) from by rw [hlen])]
      have hrd : ∀ k, k < ln i → fX6_at n 120 (nI st + nI k) tb = some (tb (st + k)) ∧ vi (nI st + nI k) 120 ∧ (nI st + nI k).toNatClampNeg = st + k ∧ mt (st + k) = tb (st + k) := fun k hk => by
        have hx : st + k < L := by omega
        rw [nI_add]
        exact ⟨e6_at n (by omega) (by decide), vi_N (by omega) (by decide), nI_clamp (by omega), by rw [(h.2 _ hx).2.1, (h.2 _ hx).2.2]⟩
      have hw : wrd tb s6 st en i = al (fun k => decide (tb (st + k) = chr i k)) (ln i) := by unfold wrd; simp [h1, hlen]
      rw [hw]
      constructor
      · suffices q : ∃ v, lp (fun (s4 : Int32) => (((fJ0_length n i).bind (fun q6 => (if q6 ≤ s4 then some (.inr (.inl s4)) else ((fX6_at n 120 ((nI st) + s4) tb).bind (fun q8 => ((fJ0_charAt n i s4).bind (fun q10 => (if q8 = q10 then some (.inl (s4 + (1 : Int32))) else some (.inr (.inr (0 : Int32))))))))))) : Option ((Int32) ⊕ ((Int32) ⊕ (Int32))))) n (0 : Int32) = some v ∧ ((∃ l, v = .inl l ∧ al (fun k => decide (tb (st + k) = chr i k)) (ln i) = true) ∨ (v = .inr (0 : Int32) ∧ ¬ al (fun k => decide (tb (st + k) = chr i k)) (ln i) = true)) by
          obtain ⟨v, v1, ⟨l, rfl, v2⟩ | ⟨rfl, v2⟩⟩ := q
          · rw [v1, if_pos v2]; rfl
          · rw [v1, if_neg v2]; rfl
        refine lp_ms (fun s => ∃ k, s = nI k ∧ k ≤ ln i ∧ ∀ j, j < k → tb (st + j) = chr i j) (fun s => ln i - s.toNatClampNeg) _ ?_ n _ ⟨0, rfl, Nat.zero_le _, fun j hj => absurd hj (Nat.not_lt_zero _)⟩ (by omega)
        rintro s ⟨k, rfl, hk, hno⟩
        try dsimp +instances only
        rw [e0_len, Option.bind_some]
        by_cases hkl : k < ln i
        · rw [if_neg (nI_ge hkl (by omega)), (hrd k hkl).1, Option.bind_some, e0_chr n hi hkl, Option.bind_some, nI_1]
          by_cases he : tb (st + k) = chr i k
          · rw [if_pos he]
            refine Or.inr ⟨_, rfl, ⟨k + 1, rfl, by omega, fun j hj => ?_⟩, by rw [nI_clamp (by omega), nI_clamp (by omega)]; omega⟩
            by_cases e : j = k
            · subst e; exact he
            · exact hno j (by omega)
          · rw [if_neg he]
            exact Or.inl ⟨_, rfl, Or.inr ⟨rfl, fun ha => he (by have := al_iff.mp ha k hkl; simpa using this)⟩⟩
        · have : k = ln i := by omega
          subst this
          rw [if_pos (nI_le (Nat.le_refl _) (by omega))]
          exact Or.inl ⟨_, rfl, Or.inl ⟨_, rfl, al_iff.mpr fun j hj => by simpa using hno j hj⟩⟩
      · suffices q : ∃ v, lp (fun (s22 : Int32 × Int32) => (((fJ0_length n i).bind (fun q24 => (if q24 ≤ s22.2 then some (.inr (s22.1, s22.2)) else (if s22.1 = 0 then some (.inr (s22.1, s22.2)) else (if vi ((nI st) + s22.2) 120 then ((fJ0_charAt n i s22.2).bind (fun q28 => (if (mt ((nI st) + s22.2).toNatClampNeg) = q28 then some (.inl ((1 : Int32), (s22.2 + (1 : Int32)))) else some (.inl ((0 : Int32), (s22.2 + (1 : Int32))))))) else none))))) : Option ((Int32 × Int32) ⊕ (Int32 × Int32)))) n ((1 : Int32), (0 : Int32)) = some v ∧ v.1 = (if al (fun k => decide (tb (st + k) = chr i k)) (ln i) = true then nI 1 else nI 0) by
          obtain ⟨v, v1, v2⟩ := q
          have h01 : v.1 = 0 ∨ v.1 = 1 := by
            rw [v2]
            by_cases hq : al (fun k => decide (tb (st + k) = chr i k)) (ln i) = true
            · right; rw [if_pos hq]; rfl
            · left; rw [if_neg hq]; rfl
          rw [v1, Option.bind_some, if_pos h01, v2]
        have hc1 : (1 : Int32).toNatClampNeg = 1 := by decide
        have hc0 : (0 : Int32).toNatClampNeg = 0 := by decide
        refine lp_ms (fun s => ∃ f k, s = (nI f, nI k) ∧ k ≤ ln i ∧ ((f = 1 ∧ ∀ j, j < k → tb (st + j) = chr i j) ∨ (f = 0 ∧ ¬ al (fun k => decide (tb (st + k) = chr i k)) (ln i) = true))) (fun s => 2 * (ln i - s.2.toNatClampNeg) + s.1.toNatClampNeg) _ ?_ n _ ⟨1, 0, rfl, Nat.zero_le _, Or.inl ⟨rfl, fun j hj => absurd hj (Nat.not_lt_zero _)⟩⟩ (by dsimp only; omega)
        rintro s ⟨f, k, rfl, hk, hf⟩
        dsimp +instances only
        rw [e0_len, Option.bind_some]
        by_cases hkl : k < ln i
        · rw [if_neg (nI_ge hkl (by omega))]
          rcases hf with ⟨rfl, hno⟩ | ⟨rfl, hbad⟩
          · rw [if_neg (show ¬ nI 1 = 0 from by decide), if_pos (hrd k hkl).2.1, e0_chr n hi hkl, Option.bind_some, (hrd k hkl).2.2.1, (hrd k hkl).2.2.2, nI_1]
            by_cases he : tb (st + k) = chr i k
            · rw [if_pos he]
              refine Or.inr ⟨_, rfl, ⟨1, k + 1, rfl, by omega, Or.inl ⟨rfl, fun j hj => ?_⟩⟩, by dsimp only; rw [nI_clamp (by omega), nI_clamp (by omega), nI_clamp (by omega)]; omega⟩
              by_cases e : j = k
              · subst e; exact he
              · exact hno j (by omega)
            · rw [if_neg he]
              exact Or.inr ⟨_, rfl, ⟨0, k + 1, rfl, by omega, Or.inr ⟨rfl, fun ha => he (by have := al_iff.mp ha k hkl; simpa using this)⟩⟩, by dsimp only; rw [nI_clamp (by omega), nI_clamp (by omega), nI_clamp (by omega)]; omega⟩
          · rw [if_pos (show nI 0 = 0 from rfl)]
            exact Or.inl ⟨_, rfl, by rw [if_neg hbad]⟩
        · have : k = ln i := by omega
          subst this
          rw [if_pos (nI_le (Nat.le_refl _) (by omega))]
          rcases hf with ⟨rfl, hno⟩ | ⟨rfl, hbad⟩
          · exact Or.inl ⟨_, rfl, by rw [if_pos (al_iff.mpr fun j hj => by simpa using hno j hj)]⟩
          · exact Or.inl ⟨_, rfl, by rw [if_neg hbad]⟩
    · have hw : ¬ wrd tb s6 st en i = true := by unfold wrd; simp [hlen]
      rw [if_neg hw, if_neg (nIneK rfl (fun e => hlen e.symm) (by omega) (by omega)), if_neg (nIneK rfl hlen (by omega) (by omega)), z0]
      exact ⟨rfl, rfl⟩
  · have h7 : ¬ s7 = 1 := fun e => h1 (hs1.mpr e)
    have h1' : ¬ s6 = 1 := h1
    have hw : ¬ wrd tb s6 st en i = true := by unfold wrd; simp [h1]
    rw [if_neg h1', if_neg h7, if_neg hw, z0]
    exact ⟨rfl, rfl⟩
