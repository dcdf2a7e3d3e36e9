/-! sheets written, copied, loaded, judged -/
theorem updN_T {f : Nat → Nat → Int32} {k j : Nat} {x : Nat → Int32} (h : j = k) : updN f k x j = x := if_pos h
theorem updN_F {f : Nat → Nat → Int32} {k j : Nat} {x : Nat → Int32} (h : j < k ∨ k < j) : updN f k x j = f j := if_neg (by omega)
/-- one sheet becomes another, the rest stays -/
theorem XH.put {hn hn' : Nat → Nat → Int32} {hb hb' hs hs' wd wd' sz sz' nu nu' : Nat → Int32} (h : XH hn hb hs wd sz nu) {s : Nat} (hs4 : s < 4) (h1 : wd' s = hb' s) (h2 : sz' s = hs' s) (h3 : ∃ z, z ≤ 40 ∧ hs' s = nI z) (h4 : ∀ i, i < 40 → nu' (40 * s + i) = hn' s i)
    (o : ∀ t, t < 4 → t ≠ s → wd' t = wd t ∧ hb' t = hb t ∧ sz' t = sz t ∧ hs' t = hs t ∧ ∀ i, i < 40 → nu' (40 * t + i) = nu (40 * t + i) ∧ hn' t i = hn t i) : XH hn' hb' hs' wd' sz' nu' := by
  intro t ht
  by_cases e : t = s
  · subst e; exact ⟨h1, h2, h3, h4⟩
  · obtain ⟨o1, o2, o3, o4, o5⟩ := o t ht e
    obtain ⟨k1, k2, k3, k4⟩ := h t ht
    exact ⟨by rw [o1, o2]; exact k1, by rw [o3, o4]; exact k2, by rw [o4]; exact k3, fun i hi => by rw [(o5 i hi).1, (o5 i hi).2]; exact k4 i hi⟩
theorem e4_zero (n : Nat) (hn2 : 100 ≤ n) (hn : Nat → Nat → Int32) (s : Nat) : ∃ v, lp (fun (s2 : Int32 × (Nat → Nat → Int32)) => ((if (40 : Int32) ≤ s2.1 then some (.inr (s2.1, s2.2)) else (if vi s2.1 40 then some (.inl ((s2.1 + (1 : Int32)), (updN s2.2 s (upd (s2.2 s) s2.1.toNatClampNeg (0 : Int32))))) else none)) : Option ((Int32 × (Nat → Nat → Int32)) ⊕ (Int32 × (Nat → Nat → Int32))))) n ((0 : Int32), hn) = some v ∧ (∀ i, i < 40 → v.2 s i = 0) ∧ ∀ j, j ≠ s → v.2 j = hn j := by
  refine lp_ex (fun k S => ∃ f, S = (nI k, f) ∧ (∀ i, i < k → f s i = 0) ∧ ∀ j, j ≠ s → f j = hn j) 40 (fun (v : Int32 × (Nat → Nat → Int32)) => (∀ i, i < 40 → v.2 s i = 0) ∧ ∀ j, j ≠ s → v.2 j = hn j) ⟨_, rfl, fun i hi => absurd hi (Nat.not_lt_zero _), fun _ _ => rfl⟩ (fun k S hk hI => ?_) (fun S hI => ?_) (by omega)
  · obtain ⟨f, rfl, h1, h2⟩ := hI
    dsimp +instances only
    rw [if_neg (Kle_F z_40 hk (by decide)), if_pos (vi_N hk (by decide)), nI_clamp (by omega), nI_1]
    refine ⟨_, rfl, _, rfl, fun i hi => ?_, fun j hj => ?_⟩
    · rw [updN_T rfl]
      by_cases e : i = k
      · subst e; rw [upd_T rfl]
      · rw [upd_F (by omega)]; exact h1 i (by omega)
    · rw [updN_F (by omega)]; exact h2 j hj
  · obtain ⟨f, rfl, h1, h2⟩ := hI
    exact ⟨_, rfl, h1, h2⟩
theorem e7_zero (n : Nat) (hn2 : 100 ≤ n) (nu : Nat → Int32) {s : Nat} (hs : s < 4) : ∃ v, lp (fun (s18 : Int32 × (Nat → Int32)) => ((if (40 : Int32) ≤ s18.1 then some (.inr (s18.1, s18.2)) else (if vi (((40 : Int32) * (nI s)) + s18.1) 160 then some (.inl ((s18.1 + (1 : Int32)), (upd s18.2 (((40 : Int32) * (nI s)) + s18.1).toNatClampNeg (0 : Int32)))) else none)) : Option ((Int32 × (Nat → Int32)) ⊕ (Int32 × (Nat → Int32))))) n ((0 : Int32), nu) = some v ∧ (∀ i, i < 40 → v.2 (40 * s + i) = 0) ∧ ∀ m, (m < 40 * s ∨ 40 * s + 40 ≤ m) → v.2 m = nu m := by
  refine lp_ex (fun k S => ∃ f, S = (nI k, f) ∧ (∀ i, i < k → f (40 * s + i) = 0) ∧ ∀ m, (m < 40 * s ∨ 40 * s + 40 ≤ m) → f m = nu m) 40 (fun (v : Int32 × (Nat → Int32)) => (∀ i, i < 40 → v.2 (40 * s + i) = 0) ∧ ∀ m, (m < 40 * s ∨ 40 * s + 40 ≤ m) → v.2 m = nu m) ⟨_, rfl, fun i hi => absurd hi (Nat.not_lt_zero _), fun _ _ => rfl⟩ (fun k S hk hI => ?_) (fun S hI => ?_) (by omega)
  · obtain ⟨f, rfl, h1, h2⟩ := hI
    dsimp +instances only
    rw [if_neg (Kle_F z_40 hk (by decide)), z_40, pk_mul, nI_add, if_pos (vi_N (by omega) (by decide)), nI_clamp (by omega), nI_1]
    refine ⟨_, rfl, _, rfl, fun i hi => ?_, fun m hm => ?_⟩
    · by_cases e : i = k
      · subst e; rw [upd_T rfl]
      · rw [upd_F (by omega)]; exact h1 i (by omega)
    · rw [upd_F (by omega)]; exact h2 m hm
  · obtain ⟨f, rfl, h1, h2⟩ := hI
    exact ⟨_, rfl, h1, h2⟩
theorem i32_cases (a : Int32) : a < 0 ∨ ∃ k, k < 2 ^ 31 ∧ a = nI k := by
  by_cases h : a < 0
  · exact Or.inl h
  · obtain ⟨j, h1, h2⟩ := nI_of h
    exact Or.inr ⟨j, h1, h2⟩
theorem neg_nle {a : Int32} (h : a < 0) : (0 ≤ a) = False := eq_false (fun h2 => by
  rw [Int32.lt_iff_toInt_lt] at h; rw [Int32.le_iff_toInt_le] at h2; omega)
theorem op_sheet (n : Nat) (hn : 100 ≤ n) {told found hb hs wd sz nu : Nat → Int32} {hN : Nat → Nat → Int32} (hT : XT told found) (hH : XH hN hb hs wd sz nu) (a1 a2 a3 : Int32) :
    ∃ x y, fX6_sheet n a1 a2 a3 hN hb hs told = some x ∧ fX7_sheet n a1 a2 a3 found wd sz nu = some y ∧ x.1 = y.1 ∧ XH x.2.1 x.2.2.1 x.2.2.2.1 y.2.2.1 y.2.2.2.1 y.2.2.2.2 ∧ XT x.2.2.2.2 y.2.1 := by
  obtain ⟨t', f', g1, g2, g3⟩ := fnd n hT 0 (by decide) z_0 (L := -1000001) (by decide)
  obtain ⟨t6, f6, i1, i2, i3⟩ := fnd n hT 6 (by decide) z_6 (L := -1000007) (by decide)
  rcases shl n hH a1 with ⟨s, hs4, rfl, s6, s7, -⟩ | ⟨s6, s7, -⟩
  · have hvs : vi (nI s) 4 := vi_N hs4 (by decide)
    have hcs := nI_clamp (show s < 2 ^ 31 by omega)
    obtain ⟨v, v1, v2, v3⟩ := e4_zero n hn hN s
    obtain ⟨w, w1, w2, w3⟩ := e7_zero n hn nu hs4
    have fin : ∀ B Z : Int32, (∃ z, z ≤ 40 ∧ Z = nI z) → XH v.2 (upd hb s B) (upd hs s Z) (upd wd s B) (upd sz s Z) w.2 := fun B Z hZ =>
      hH.put hs4 (by rw [upd_T rfl, upd_T rfl]) (by rw [upd_T rfl, upd_T rfl]) (by rw [upd_T rfl]; exact hZ) (fun i hi => by rw [w2 i hi, v2 i hi])
        (fun t ht hne => ⟨upd_F (by omega), upd_F (by omega), upd_F (by omega), upd_F (by omega), fun i hi => ⟨w3 _ (by omega), by rw [v3 t hne]⟩⟩)
    have hcan : ∀ B, (B = 0 ∨ B = 8 ∨ B = 16 ∨ B = 32) → fX4_canHave n B = some (nI 1) := fun B hB => by
      rcases hB with rfl | rfl | rfl | rfl <;> rfl
    rcases i32_cases a3 with hneg | ⟨k, hk, rfl⟩
    · have h0 := neg_nle hneg
      by_cases b0 : a2 = 0
      · simp only [fX6_sheet, fX7_sheet, s6, s7, hcan a2 (Or.inl b0), if_pos b0, h0, i1, i2, Option.bind_some, Option.elim_some, Option.elim_none, t10, t00, if_true, if_false]
        exact ⟨_, _, rfl, rfl, rfl, hH, i3⟩
      · by_cases b8 : a2 = 8
        · simp only [fX6_sheet, fX7_sheet, s6, s7, hcan a2 (Or.inr (Or.inl b8)), if_neg b0, if_pos b8, h0, i1, i2, Option.bind_some, Option.elim_some, Option.elim_none, t10, t00, if_true, if_false]
          exact ⟨_, _, rfl, rfl, rfl, hH, i3⟩
        · by_cases b16 : a2 = 16
          · simp only [fX6_sheet, fX7_sheet, s6, s7, hcan a2 (Or.inr (Or.inr (Or.inl b16))), if_neg b0, if_neg b8, if_pos b16, h0, i1, i2, Option.bind_some, Option.elim_some, Option.elim_none, t10, t00, if_true, if_false]
            exact ⟨_, _, rfl, rfl, rfl, hH, i3⟩
          · by_cases b32 : a2 = 32
            · simp only [fX6_sheet, fX7_sheet, s6, s7, hcan a2 (Or.inr (Or.inr (Or.inr b32))), if_neg b0, if_neg b8, if_neg b16, if_pos b32, h0, i1, i2, Option.bind_some, Option.elim_some, Option.elim_none, t10, t00, if_true, if_false]
              exact ⟨_, _, rfl, rfl, rfl, hH, i3⟩
            · simp only [fX6_sheet, fX7_sheet, s6, s7, fX4_canHave, if_neg b0, if_neg b8, if_neg b16, if_neg b32, g1, g2, Option.bind_some, Option.elim_some, Option.elim_none, t10, t00, if_true, if_false]
              exact ⟨_, _, rfl, rfl, rfl, hH, g3⟩
    · have h0 : (0 ≤ nI k) = True := eq_true (nI_pos' hk)
      by_cases h40 : k ≤ 40
      · have hle : (nI k ≤ (40 : Int32)) = True := eq_true (leK_T z_40 h40 (by decide))
        by_cases b0 : a2 = 0
        · simp only [fX6_sheet, fX7_sheet, fX4_lay, s6, s7, hcan a2 (Or.inl b0), if_pos b0, h0, hle, if_pos hvs, hcs, v1, w1, Option.bind_some, Option.elim_some, Option.elim_none, t10, t00, if_true, if_false]
          exact ⟨_, _, rfl, rfl, by rw [upd_T rfl, upd_T rfl], fin a2 0 ⟨0, by decide, rfl⟩, hT⟩
        · have hk40 : ∃ z, z ≤ 40 ∧ nI k = nI z := ⟨k, h40, rfl⟩
          by_cases b8 : a2 = 8
          · simp only [fX6_sheet, fX7_sheet, fX4_lay, s6, s7, hcan a2 (Or.inr (Or.inl b8)), if_neg b0, if_pos b8, h0, hle, if_pos hvs, hcs, v1, w1, Option.bind_some, Option.elim_some, Option.elim_none, t10, t00, if_true, if_false]
            exact ⟨_, _, rfl, rfl, by rw [upd_T rfl, upd_T rfl], fin a2 _ hk40, hT⟩
          · by_cases b16 : a2 = 16
            · simp only [fX6_sheet, fX7_sheet, fX4_lay, s6, s7, hcan a2 (Or.inr (Or.inr (Or.inl b16))), if_neg b0, if_neg b8, if_pos b16, h0, hle, if_pos hvs, hcs, v1, w1, Option.bind_some, Option.elim_some, Option.elim_none, t10, t00, if_true, if_false]
              exact ⟨_, _, rfl, rfl, by rw [upd_T rfl, upd_T rfl], fin a2 _ hk40, hT⟩
            · by_cases b32 : a2 = 32
              · simp only [fX6_sheet, fX7_sheet, fX4_lay, s6, s7, hcan a2 (Or.inr (Or.inr (Or.inr b32))), if_neg b0, if_neg b8, if_neg b16, if_pos b32, h0, hle, if_pos hvs, hcs, v1, w1, Option.bind_some, Option.elim_some, Option.elim_none, t10, t00, if_true, if_false]
                exact ⟨_, _, rfl, rfl, by rw [upd_T rfl, upd_T rfl], fin a2 _ hk40, hT⟩
              · simp only [fX6_sheet, fX7_sheet, s6, s7, fX4_canHave, if_neg b0, if_neg b8, if_neg b16, if_neg b32, g1, g2, Option.bind_some, Option.elim_some, Option.elim_none, t10, t00, if_true, if_false]
                exact ⟨_, _, rfl, rfl, rfl, hH, g3⟩
      · have hle : (nI k ≤ (40 : Int32)) = False := eq_false (leK_F z_40 (by omega) hk)
        by_cases b0 : a2 = 0
        · simp only [fX6_sheet, fX7_sheet, s6, s7, hcan a2 (Or.inl b0), if_pos b0, h0, hle, g1, g2, Option.bind_some, Option.elim_some, Option.elim_none, t10, t00, if_true, if_false]
          exact ⟨_, _, rfl, rfl, rfl, hH, g3⟩
        · by_cases b8 : a2 = 8
          · simp only [fX6_sheet, fX7_sheet, s6, s7, hcan a2 (Or.inr (Or.inl b8)), if_neg b0, if_pos b8, h0, hle, g1, g2, Option.bind_some, Option.elim_some, Option.elim_none, t10, t00, if_true, if_false]
            exact ⟨_, _, rfl, rfl, rfl, hH, g3⟩
          · by_cases b16 : a2 = 16
            · simp only [fX6_sheet, fX7_sheet, s6, s7, hcan a2 (Or.inr (Or.inr (Or.inl b16))), if_neg b0, if_neg b8, if_pos b16, h0, hle, g1, g2, Option.bind_some, Option.elim_some, Option.elim_none, t10, t00, if_true, if_false]
              exact ⟨_, _, rfl, rfl, rfl, hH, g3⟩
            · by_cases b32 : a2 = 32
              · simp only [fX6_sheet, fX7_sheet, s6, s7, hcan a2 (Or.inr (Or.inr (Or.inr b32))), if_neg b0, if_neg b8, if_neg b16, if_pos b32, h0, hle, g1, g2, Option.bind_some, Option.elim_some, Option.elim_none, t10, t00, if_true, if_false]
                exact ⟨_, _, rfl, rfl, rfl, hH, g3⟩
              · simp only [fX6_sheet, fX7_sheet, s6, s7, fX4_canHave, if_neg b0, if_neg b8, if_neg b16, if_neg b32, g1, g2, Option.bind_some, Option.elim_some, Option.elim_none, t10, t00, if_true, if_false]
                exact ⟨_, _, rfl, rfl, rfl, hH, g3⟩
  · simp only [fX6_sheet, fX7_sheet, s6, s7, g1, g2, Option.bind_some, Option.elim_some, Option.elim_none, t10, t00, if_true, if_false]
    exact ⟨_, _, rfl, rfl, rfl, hH, g3⟩
/-- within a row of z numbers -/
theorem wz (n : Nat) {a : Int32} (z : Nat) (hz : z ≤ 40) : (∃ j, j < z ∧ a = nI j ∧ fX6_within n a 0 (nI z - 1) = some (nI 1) ∧ fX7_within n a 0 (nI z - 1) = some (nI 1)) ∨ (fX6_within n a 0 (nI z - 1) = some (nI 0) ∧ fX7_within n a 0 (nI z - 1) = some (nI 0)) := by
  rcases rg a z (by omega) with ⟨j, h1, rfl⟩ | h1
  · refine Or.inl ⟨j, h1, rfl, ?_, ?_⟩
    · rw [z_1, pk_sub (by omega), z_0]; exact e6_within n (Nat.zero_le _) (by omega) (by omega)
    · rw [z_1, pk_sub (by omega), z_0]; exact e7_within n (Nat.zero_le _) (by omega) (by omega)
  · have hd : a < nI 0 ∨ nI z - 1 < a := by
      rcases h1 with h | h
      · exact Or.inl h
      · right
        by_cases h0 : z = 0
        · subst h0
          have h2 : nI 0 - 1 = m1 := by decide
          rw [h2]
          rw [Int32.le_iff_toInt_le, nI_toInt (by decide)] at h
          rw [Int32.lt_iff_toInt_lt, m1_int]; omega
        · obtain ⟨k, rfl⟩ : ∃ k, z = k + 1 := ⟨z - 1, by omega⟩
          rw [z_1, pk_sub (by omega), Nat.add_sub_cancel, ← i32_lt_of_le (by omega)]; exact h
    exact Or.inr ⟨e6_withinB n hd, e7_withinB n hd⟩
theorem op_write (n : Nat) {told found hb hs wd sz nu : Nat → Int32} {hN : Nat → Nat → Int32} (hT : XT told found) (hH : XH hN hb hs wd sz nu) (a1 a2 a3 : Int32) :
    ∃ x y, fX6_write n a1 a2 a3 hN hb hs told = some x ∧ fX7_write n a1 a2 a3 found wd sz nu = some y ∧ x.1 = y.1 ∧ XH x.2.1 hb hs wd sz y.2.2 ∧ XT x.2.2 y.2.1 := by
  obtain ⟨t', f', g1, g2, g3⟩ := fnd n hT 0 (by decide) z_0 (L := -1000001) (by decide)
  obtain ⟨t5, f5, i1, i2, i3⟩ := fnd n hT 5 (by decide) z_5 (L := -1000006) (by decide)
  rcases shl n hH a1 with ⟨s, hs4, rfl, s6, s7, hm⟩ | ⟨s6, s7, -⟩
  · have hvs : vi (nI s) 4 := vi_N hs4 (by decide)
    have hcs := nI_clamp (show s < 2 ^ 31 by omega)
    obtain ⟨k1, k2, ⟨z, hz40, hz⟩, k4⟩ := hH s hs4
    rcases hm with ⟨m0, m6, -⟩ | ⟨m0, m6, -⟩
    · have hw0 : (wd s = 0) = True := eq_true (k1.trans m0)
      simp only [fX6_write, fX7_write, s6, s7, m6, if_pos hvs, hcs, hw0, i1, i2, Option.bind_some, Option.elim_some, Option.elim_none, t10, t00, if_true, if_false]
      exact ⟨_, _, rfl, rfl, rfl, hH, i3⟩
    · have hw0 : (wd s = 0) = False := eq_false (by rw [k1]; exact m0)
      rcases wz n (a := a2) z hz40 with ⟨i, hi, rfl, w6, w7⟩ | ⟨w6, w7⟩
      · have hvi : vi (nI (40 * s + i)) 160 := vi_N (by omega) (by decide)
        have hci := nI_clamp (show 40 * s + i < 2 ^ 31 by omega)
        have fin : ∀ B, XH (updN hN s (upd (hN s) i B)) hb hs wd sz (upd nu (40 * s + i) B) := fun B =>
          hH.put hs4 k1 k2 ⟨z, hz40, hz⟩ (fun j hj => by
            rw [updN_T rfl]
            by_cases e : j = i
            · subst e; rw [upd_T rfl, upd_T rfl]
            · rw [upd_F (by omega), upd_F (by omega)]; exact k4 j hj) (fun t ht hne => ⟨rfl, rfl, rfl, rfl, fun j hj => ⟨upd_F (by omega), by rw [updN_F (by omega)]⟩⟩)
        have pu : ∀ B, fX6_put n 40 (nI i) B (hN s) = some (upd (hN s) i B) := fun B => e6_put n (by omega) (by decide)
        have hmu : (40 : Int32) * nI s + nI i = nI (40 * s + i) := by rw [z_40, pk_mul, nI_add]
        rw [← hz] at w6
        rw [← hz, ← k2] at w7
        by_cases b8 : hb s = 8
        · have b8' : wd s = 8 := k1.trans b8
          simp only [fX6_write, fX7_write, fX4_note, fX7_cutTo, s6, s7, m6, if_pos hvs, hcs, hw0, w6, w7, pu, if_pos b8, if_pos b8', hmu, if_pos hvi, hci, Option.bind_some, Option.elim_some, Option.elim_none, t10, t00, if_true, if_false]
          exact ⟨_, _, rfl, rfl, rfl, fin _, hT⟩
        · have b8' : ¬ wd s = 8 := by rw [k1]; exact b8
          by_cases b16 : hb s = 16
          · have b16' : wd s = 16 := k1.trans b16
            simp only [fX6_write, fX7_write, fX4_note, fX7_cutTo, s6, s7, m6, if_pos hvs, hcs, hw0, w6, w7, pu, if_neg b8, if_neg b8', if_pos b16, if_pos b16', hmu, if_pos hvi, hci, Option.bind_some, Option.elim_some, Option.elim_none, t10, t00, if_true, if_false]
            exact ⟨_, _, rfl, rfl, rfl, fin _, hT⟩
          · have b16' : ¬ wd s = 16 := by rw [k1]; exact b16
            simp only [fX6_write, fX7_write, fX4_note, fX7_cutTo, s6, s7, m6, if_pos hvs, hcs, hw0, w6, w7, pu, if_neg b8, if_neg b8', if_neg b16, if_neg b16', hmu, if_pos hvi, hci, Option.bind_some, Option.elim_some, Option.elim_none, t10, t00, if_true, if_false]
            exact ⟨_, _, rfl, rfl, rfl, fin _, hT⟩
      · rw [← hz] at w6
        rw [← hz, ← k2] at w7
        simp only [fX6_write, fX7_write, s6, s7, m6, if_pos hvs, hcs, hw0, w6, w7, g1, g2, Option.bind_some, Option.elim_some, Option.elim_none, t10, t00, if_true, if_false]
        exact ⟨_, _, rfl, rfl, rfl, hH, g3⟩
  · simp only [fX6_write, fX7_write, s6, s7, g1, g2, Option.bind_some, Option.elim_some, Option.elim_none, t10, t00, if_true, if_false]
    exact ⟨_, _, rfl, rfl, rfl, hH, g3⟩
