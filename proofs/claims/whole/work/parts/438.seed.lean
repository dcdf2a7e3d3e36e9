/-! texts: a seed -/
theorem o10 : ((1 : Int32) = 0) = False := eq_false (by decide)
theorem o00 : ((0 : Int32) = 0) = True := eq_true rfl
theorem m1neg : (m1 < 0) = True := eq_true (by decide)
theorem readSeedJ (n : Nat) (hn : 200 ≤ n) {mt tb : Nat → Int32} {B : Nat → Nat} {L st en : Nat} {s6 v6 s7 v7 : Int32} (h : BY tb mt B L) (hk : TK B L st en s6 v6 s7 v7) (hlt : st < en) {p1_paths : Nat → Int32} {p1_water : Int64} {p1_wall : Int64} {p1_kind : Nat → Int32} {p1_place : Nat → Int32} {p1_facing : Nat → Int32} {p1_age : Nat → Int32} {p1_seeds : Int32} {p1_season : Int32} {p1_z : Int32} {p1_spots : Nat → Int32} {q : Nat → Nat} {e : Nat → Int32} {b k m : Nat} (kk : CP p1_paths p1_water p1_wall p1_kind p1_place p1_facing p1_age p1_seeds p1_season p1_z p1_spots q e) (hv : IV b q) (hk7 : k < 7) (hm : m < 120) (items : Nat → Int32) :
    (∃ (st' en' : Nat) (s6' v6' s7' v7' : Int32) (c hd a : Nat) (X : (Nat → Int32) × (Nat → Int32) × (Nat → Int32) × (Nat → Int32) × Int32), c < 36 ∧ hd < 4 ∧ a ≤ 999 ∧ q 1 < 8 ∧ TK B L st' en' s6' v6' s7' v7' ∧ st + 2 ≤ st' ∧
      fX1_readSeed n (nI k) p1_kind p1_place p1_facing p1_age p1_seeds tb (nI L) s6 (nI st) (nI en) v6 = some ((1 : Int32), X.1, X.2.1, X.2.2.1, X.2.2.2.1, X.2.2.2.2, s6', nI st', nI en', v6') ∧
      CP p1_paths p1_water p1_wall X.1 X.2.1 X.2.2.1 X.2.2.2.1 X.2.2.2.2 p1_season p1_z p1_spots (qpl q k c hd a) e ∧
      fX7_readSeed n (nI k) mt (nI L) (nI st) (nI en) s7 v7 (0 : Int32) items (nI m) (nI (q 1)) = some (nI st', nI en', s7', v7', (0 : Int32), it4 items m (nI k) (nI c) (nI hd) (nI a), nI (m + 1), nI (q 1 + 1))) ∨
    (∃ (f : Nat) (R6 : Int32 × (Nat → Int32) × (Nat → Int32) × (Nat → Int32) × (Nat → Int32) × Int32 × Int32 × Int32 × Int32 × Int32) (R7 : Int32 × Int32 × Int32 × Int32 × Int32 × (Nat → Int32) × Int32 × Int32), f ≤ L ∧
      fX1_readSeed n (nI k) p1_kind p1_place p1_facing p1_age p1_seeds tb (nI L) s6 (nI st) (nI en) v6 = some R6 ∧ R6.1 = 0 ∧ R6.2.2.2.2.2.2.2.1 = nI f ∧
      fX7_readSeed n (nI k) mt (nI L) (nI st) (nI en) s7 v7 (0 : Int32) items (nI m) (nI (q 1)) = some R7 ∧ R7.1 = nI f ∧ R7.2.2.2.2.1 = 1) := by
  have h8 := hv.1
  have hsd : p1_seeds = nI (q 1) := kk.2.2.2.2.2.2.2.1
  have hF := e2_isFull n hv.1
  rw [← hsd] at hF
  have heL := hk.2.1
  have hW := wordOfW n hn 10 4 (by decide) (by decide) mt
  have hI := e7_item n hm items
  by_cases e8 : q 1 = 8
  · have hT : ((8 : Int32) ≤ nI (q 1)) = True := eq_true (Kle_T z_8 (by omega) (by omega))
    rw [if_pos e8] at hF
    refine Or.inr ⟨st, ?_⟩
    simp only [fX1_readSeed, fX7_readSeed, hF, hT, must0, mustW, numberW, hW, m1neg, hI, o10, Option.bind_some, Option.elim_some, Option.elim_none, t10, t00, if_true, if_false]
    exact ⟨_, _, by omega, rfl, rfl, rfl, rfl, rfl, rfl⟩
  · have hT : ((8 : Int32) ≤ nI (q 1)) = False := eq_false (Kle_F z_8 (by omega) (by decide))
    rw [if_neg e8] at hF
    obtain ⟨st1, en1, s61, v61, s71, v71, n6, n7, hst1, hk1⟩ := nextJ n hn h heL s6 (nI st) v6 (nI st) s7 v7
    have heL1 := hk1.2.1
    rcases numJ n hk1 35 z_35 (by decide) with ⟨c, hc, rfl, rfl, hs71, hlt1, m6, m7⟩ | ⟨-, m6, m7⟩
    · obtain ⟨st2, en2, s62, v62, s72, v72, n62, n72, hst2, hk2⟩ := nextJ n hn h heL1 s61 (nI st1) (nI c) (nI st1) s71 (nI c)
      have heL2 := hk2.2.1
      have hd6 := headingJ n hn h hk2
      have hd7 := wordOfJ n hn h hk2 10 4 (by decide)
      generalize hf : fs (fun k => wrd tb s62 st2 en2 (10 + k)) 4 = f at hd6 hd7
      have hneg := opw_neg (f := f) (nn := 4) (by decide)
      have hpos := opw_pos (f := f) (nn := 4) (by decide)
      have hmax := opw_max (f := f) (nn := 4) (by decide)
      have hhd : (if f < 4 then f else 0) < 4 := by split <;> omega
      have fin : ∀ (st' en' : Nat) (s6' v6' s7' v7' : Int32) (a : Nat), a ≤ 999 → st2 ≤ st' → TK B L st' en' s6' v6' s7' v7' → ∃ x, (if f < 4 then fX2_plant n (nI k) (nI c) (opw f 4) (nI a) p1_kind p1_place p1_facing p1_age p1_seeds else fX2_plant n (nI k) (nI c) (0 : Int32) (nI a) p1_kind p1_place p1_facing p1_age p1_seeds) = some x ∧ CP p1_paths p1_water p1_wall x.2.1 x.2.2.1 x.2.2.2.1 x.2.2.2.2.1 x.2.2.2.2.2 p1_season p1_z p1_spots (qpl q k c (if f < 4 then f else 0) a) e := by
        intro st' en' s6' v6' s7' v7' a _ _ _
        obtain ⟨x, x1, -, x3⟩ := CP_plant n kk (show q 1 < 8 by omega) (k := k) (c := c) (h := if f < 4 then f else 0) (a := a)
        refine ⟨x, ?_, x3⟩
        by_cases hf4 : f < 4
        · rw [if_pos hf4, opw_T hf4]; rw [if_pos hf4] at x1; exact x1
        · rw [if_neg hf4]; rw [if_neg hf4] at x1; exact x1
      by_cases hf4 : f < 4
      · have hng : (opw f 4 < 0) = False := by rw [hneg]; exact eq_false (fun h => h hf4)
        have hps : (0 ≤ opw f 4) = True := by rw [hpos]; exact eq_true hf4
        obtain ⟨st3, en3, s63, v63, s73, v73, n63, n73, hst3, hk3⟩ := nextJ n hn h heL2 s62 (nI st2) v62 (nI st2) s72 v72
        have heL3 := hk3.2.1
        have g2 := hk2.1
        have g3 := hk3.1
        obtain ⟨a6, a7⟩ := wordJ n hn h hk3 (show 15 < 16 by decide)
        by_cases hag : wrd tb s63 st3 en3 15 = true
        · rw [if_pos hag] at a6 a7
          obtain ⟨st4, en4, s64, v64, s74, v74, n64, n74, hst4, hk4⟩ := nextJ n hn h heL3 s63 (nI st3) v63 (nI st3) s73 v73
          have heL4 := hk4.2.1
          have g4 := hk4.1
          rcases numJ n hk4 999 z_999 (by decide) with ⟨a, ha, rfl, rfl, hs74, hlt4, b6, b7⟩ | ⟨-, b6, b7⟩
          · obtain ⟨st5, en5, s65, v65, s75, v75, n65, n75, hst5, hk5⟩ := nextJ n hn h heL4 s64 (nI st4) (nI a) (nI st4) s74 (nI a)
            obtain ⟨x, x1, x2⟩ := fin st5 en5 s65 v65 s75 v75 a ha (by omega) hk5
            rw [if_pos hf4] at x1
            refine Or.inl ⟨st5, en5, s65, v65, s75, v75, c, _, a, x.2, by omega, hhd, ha, by omega, hk5, by omega, ?_, x2, ?_⟩
            · simp only [fX1_readSeed, hF, n6, m6, n62, hd6, hng, hps, n63, a6, n64, b6, n65, x1, Option.bind_some, Option.elim_some, Option.elim_none, t10, t00, if_true, if_false]
            · simp only [fX7_readSeed, hT, must1, n7, Option.bind_some, Option.elim_some, Option.elim_none, t10, t00, if_true, if_false]
              rw [m7]
              simp only [n72, hd7, hng, n73, a7, o00, must1, n74, Option.bind_some, Option.elim_some, Option.elim_none, t10, t00, if_true, if_false]
              rw [b7]
              simp only [n75, hI, hmax, Option.bind_some, Option.elim_some, Option.elim_none, t10, t00, if_true, if_false]
              rw [z_1, nI_add]
          · refine Or.inr ⟨st4, ?_⟩
            have q6 := hk4.1
            simp only [fX1_readSeed, fX7_readSeed, hF, hT, must1, n6, n7, m6, Option.bind_some, Option.elim_some, Option.elim_none, t10, t00, if_true, if_false]
            rw [m7]
            simp only [n62, n72, hd6, hd7, hng, hps, n63, n73, a6, a7, o00, must1, n64, n74, b6, Option.bind_some, Option.elim_some, Option.elim_none, t10, t00, if_true, if_false]
            rw [b7]
            simp only [hI, Option.bind_some, Option.elim_some, Option.elim_none, t10, t00, if_true, if_false]
            exact ⟨_, _, by omega, rfl, rfl, rfl, rfl, rfl, rfl⟩
        · rw [if_neg hag] at a6 a7
          obtain ⟨x, x1, x2⟩ := fin st3 en3 s63 v63 s73 v73 0 (by decide) (by have := hk2.1; omega) hk3
          rw [if_pos hf4, show nI 0 = (0 : Int32) from rfl] at x1
          refine Or.inl ⟨st3, en3, s63, v63, s73, v73, c, _, 0, x.2, by omega, hhd, by decide, by omega, hk3, by omega, ?_, x2, ?_⟩
          · simp only [fX1_readSeed, hF, n6, m6, n62, hd6, hng, hps, n63, a6, x1, Option.bind_some, Option.elim_some, Option.elim_none, t10, t00, if_true, if_false]
          · simp only [fX7_readSeed, hT, must1, n7, m7, n72, hd7, hng, n73, a7, hI, hmax, o00, Option.bind_some, Option.elim_some, Option.elim_none, t10, t00, if_true, if_false]
            rw [z_1, nI_add]; rfl
      · have hng : (opw f 4 < 0) = True := by rw [hneg]; exact eq_true hf4
        have hps : (0 ≤ opw f 4) = False := by rw [hpos]; exact eq_false hf4
        obtain ⟨a6, a7⟩ := wordJ n hn h hk2 (show 15 < 16 by decide)
        have g2 := hk2.1
        by_cases hag : wrd tb s62 st2 en2 15 = true
        · rw [if_pos hag] at a6 a7
          obtain ⟨st4, en4, s64, v64, s74, v74, n64, n74, hst4, hk4⟩ := nextJ n hn h heL2 s62 (nI st2) v62 (nI st2) s72 v72
          have heL4 := hk4.2.1
          have g4 := hk4.1
          rcases numJ n hk4 999 z_999 (by decide) with ⟨a, ha, rfl, rfl, hs74, hlt4, b6, b7⟩ | ⟨-, b6, b7⟩
          · obtain ⟨st5, en5, s65, v65, s75, v75, n65, n75, hst5, hk5⟩ := nextJ n hn h heL4 s64 (nI st4) (nI a) (nI st4) s74 (nI a)
            obtain ⟨x, x1, x2⟩ := fin st5 en5 s65 v65 s75 v75 a ha (by omega) hk5
            rw [if_neg hf4] at x1
            refine Or.inl ⟨st5, en5, s65, v65, s75, v75, c, _, a, x.2, by omega, hhd, ha, by omega, hk5, by omega, ?_, x2, ?_⟩
            · simp only [fX1_readSeed, hF, n6, m6, n62, hd6, hng, hps, a6, n64, b6, n65, x1, Option.bind_some, Option.elim_some, Option.elim_none, t10, t00, if_true, if_false]
            · simp only [fX7_readSeed, hT, must1, n7, Option.bind_some, Option.elim_some, Option.elim_none, t10, t00, if_true, if_false]
              rw [m7]
              simp only [n72, hd7, hng, a7, o00, must1, n74, Option.bind_some, Option.elim_some, Option.elim_none, t10, t00, if_true, if_false]
              rw [b7]
              simp only [n75, hI, hmax, Option.bind_some, Option.elim_some, Option.elim_none, t10, t00, if_true, if_false]
              rw [z_1, nI_add]
          · refine Or.inr ⟨st4, ?_⟩
            have q6 := hk4.1
            simp only [fX1_readSeed, fX7_readSeed, hF, hT, must1, n6, n7, m6, Option.bind_some, Option.elim_some, Option.elim_none, t10, t00, if_true, if_false]
            rw [m7]
            simp only [n62, n72, hd6, hd7, hng, hps, a6, a7, o00, must1, n64, n74, b6, Option.bind_some, Option.elim_some, Option.elim_none, t10, t00, if_true, if_false]
            rw [b7]
            simp only [hI, Option.bind_some, Option.elim_some, Option.elim_none, t10, t00, if_true, if_false]
            exact ⟨_, _, by omega, rfl, rfl, rfl, rfl, rfl, rfl⟩
        · rw [if_neg hag] at a6 a7
          obtain ⟨x, x1, x2⟩ := fin st2 en2 s62 v62 s72 v72 0 (by decide) (Nat.le_refl _) hk2
          rw [if_neg hf4, show nI 0 = (0 : Int32) from rfl] at x1
          refine Or.inl ⟨st2, en2, s62, v62, s72, v72, c, _, 0, x.2, by omega, hhd, by decide, by omega, hk2, by omega, ?_, x2, ?_⟩
          · simp only [fX1_readSeed, hF, n6, m6, n62, hd6, hng, hps, a6, x1, Option.bind_some, Option.elim_some, Option.elim_none, t10, t00, if_true, if_false]
          · simp only [fX7_readSeed, hT, must1, n7, m7, n72, hd7, hng, a7, hI, hmax, o00, Option.bind_some, Option.elim_some, Option.elim_none, t10, t00, if_true, if_false]
            rw [z_1, nI_add]; rfl
    · refine Or.inr ⟨st1, ?_⟩
      simp only [fX1_readSeed, fX7_readSeed, hF, hT, must1, n6, n7, m6, m7, hW, m1neg, hI, o10, Option.bind_some, Option.elim_some, Option.elim_none, t10, t00, if_true, if_false]
      exact ⟨_, _, by have := hk1.1; omega, rfl, rfl, rfl, rfl, rfl, rfl⟩
