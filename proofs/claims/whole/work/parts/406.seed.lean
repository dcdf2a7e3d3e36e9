/-! seeds: alive, the nearest of the others -/
theorem vi_N {a b : Nat} (h : a < b) (hb : b < 2 ^ 31) : vi (nI a) b := vp_in_nI h hb
theorem RF.k0 {f : Nat → Int32} {q : Nat → Nat} (h : RF f q 0) {s : Nat} (hs : s < 8) : f s = nI (q (85 + 4 * s)) := h s hs
theorem t_lv : ∀ k, k < 7 → fX3_lives 0 0 (fun _ => nI k) = some (nI (lv k)) := by decide +kernel
theorem t_tr : ∀ k, k < 7 → fX3_treads 0 0 (fun _ => nI k) = some (nI (tr k)) := by decide +kernel
theorem lvL_lt : ∀ k, lv k < 31 := fun k => by
  unfold lv
  repeat' split
  all_goals omega
theorem trL_lt : ∀ k, tr k < 33 := fun k => by
  unfold tr
  repeat' split
  all_goals omega
theorem e3_lives (n : Nat) {j k : Nat} {kind : Nat → Int32} (h : kind j = nI k) (hk : k < 7) : fX3_lives n j kind = some (nI (lv k)) := by
  unfold fX3_lives; rw [h]; exact t_lv k hk
theorem e3_treads (n : Nat) {j k : Nat} {kind : Nat → Int32} (h : kind j = nI k) (hk : k < 7) : fX3_treads n j kind = some (nI (tr k)) := by
  unfold fX3_treads; rw [h]; exact t_tr k hk
theorem e3_isAlive (n : Nat) {j : Nat} {kind age : Nat → Int32} {q : Nat → Nat} {b : Nat} (hk : RF kind q 0) (ha : RF age q 3) (hv : IV b q) (hj : j < 8) : fX3_isAlive n j kind age = some (if aliv q j = true then nI 1 else nI 0) := by
  have h1 := hv.2.2.2 j hj
  have h2 := lvL_lt (q (85 + 4 * j))
  unfold fX3_isAlive
  rw [e3_lives n (hk.k0 hj) (by omega), Option.bind_some, ha j hj]
  unfold aliv
  by_cases h : q (85 + 4 * j + 3) < lv (q (85 + 4 * j))
  · rw [if_neg (nI_ge h (by omega)), if_pos (by simp [h])]; rfl
  · rw [if_pos (nI_le (by omega) (by omega)), if_neg (by simp [h])]; rfl
theorem e7_at (n s f : Nat) : fX7_at n (nI s) (nI f) = some (nI (85 + 4 * s + f)) := by
  unfold fX7_at
  rw [z_85, z_4, pk_mul, nI_add, nI_add]
theorem e7_seedIs (n : Nat) {s f : Nat} {r : Nat → Int32} {q : Nat → Nat} {e : Nat → Int32} (hr : RM r q e) (hs : s < 8) (hf : f < 4) : fX7_seedIs n (nI s) (nI f) r = some (nI (q (85 + 4 * s + f))) := by
  unfold fX7_seedIs
  rw [e7_at, Option.bind_some, if_pos (vi_N (by omega) (by decide)), nI_clamp (by omega), hr.at _ (by omega) (by omega)]
theorem e7_seedK (n : Nat) {s f : Nat} {fI : Int32} (hfI : fI = nI f) {r : Nat → Int32} {q : Nat → Nat} {e : Nat → Int32} (hr : RM r q e) (hs : s < 8) (hf : f < 4) : fX7_seedIs n (nI s) fI r = some (nI (q (85 + 4 * s + f))) := by
  subst hfI; exact e7_seedIs n hr hs hf
theorem e7_isAlive (n : Nat) {s : Nat} {r lives : Nat → Int32} {q : Nat → Nat} {e : Nat → Int32} {b : Nat} (hr : RM r q e) (hl : LV lives) (hv : IV b q) (hs : s < 8) : fX7_isAlive n (nI s) r lives = some (if aliv q s = true then nI 1 else nI 0) := by
  have h1 := hv.2.2.2 s hs
  have h2 := lvL_lt (q (85 + 4 * s))
  unfold fX7_isAlive
  rw [e7_seedK n z_3 hr hs (by decide), Option.bind_some, e7_seedK n z_0 hr hs (by decide), Option.bind_some, Nat.add_zero, if_pos (vi_N (by omega) (by decide)), nI_clamp (by omega), hl _ (by omega)]
  unfold aliv
  by_cases h : q (85 + 4 * s + 3) < lv (q (85 + 4 * s))
  · rw [if_neg (nI_ge h (by omega)), if_pos (by simp [h])]; rfl
  · rw [if_pos (nI_le (by omega) (by omega)), if_neg (by simp [h])]; rfl
theorem e2_sownAt (n : Nat) {j : Nat} (hj : j < 8) : fX2_sownAt n (nI j) = some (some j) := by
  unfold fX2_sownAt
  rw [if_neg (nI_pos (by omega)), z_8, if_neg (nI_ge hj (by decide)), if_pos (vi_N hj (by decide)), nI_clamp (by omega)]
theorem e2_seedAt (n : Nat) {j k : Nat} (hj : j < k) (hk : k ≤ 8) : fX2_seedAt n (nI j) (nI k) = some (some j) := by
  unfold fX2_seedAt
  rw [if_neg (nI_ge hj (by omega)), e2_sownAt n (by omega)]; rfl
theorem e2_seedAtB (n : Nat) {a : Int32} {k : Nat} (hk : k ≤ 8) (h : a < nI 0 ∨ nI k ≤ a) : fX2_seedAt n a (nI k) = some none := by
  unfold fX2_seedAt
  by_cases h1 : nI k ≤ a
  · rw [if_pos h1]
  · rw [if_neg h1]
    unfold fX2_sownAt
    have h2 : a < 0 := h.resolve_right h1
    rw [if_pos h2]; rfl
theorem e2_nearestCompany (n : Nat) (hn : 40 ≤ n) {j : Nat} {water : Int64} {kind place age : Nat → Int32} {q : Nat → Nat} {b : Nat} (hw : RS water q 1) (hk : RF kind q 0) (hp : RF place q 1) (ha : RF age q 3) (hv : IV b q) (hj : j < 8) :
    fX2_nearestCompany n j water kind place age (nI (q 1)) = some (nbI (if nhd q (q (85 + 4 * j + 1)) = 36 then nwat q (q (85 + 4 * j + 1)) else nhd q (q (85 + 4 * j + 1)))) := by
  have hc : q (85 + 4 * j + 1) < 36 := (hv.2.2.2 j hj).2.1
  have hk8 := hv.1
  unfold fX2_nearestCompany
  rw [hp j hj]
  generalize hcc : q (85 + 4 * j + 1) = c at hc ⊢
  refine lpb (fun k => (nbI (near c (fun o => decide (q (85 + 4 * o + 1) ≠ c) && aliv q o) (fun o => q (85 + 4 * o + 1)) k), nI (if near c (fun o => decide (q (85 + 4 * o + 1) ≠ c) && aliv q o) (fun o => q (85 + 4 * o + 1)) k = 36 then 36 else dst c (near c (fun o => decide (q (85 + 4 * o + 1) ≠ c) && aliv q o) (fun o => q (85 + 4 * o + 1)) k)), nI k)) (q 1) (nbI (nhd q c), nI (if nhd q c = 36 then 36 else dst c (nhd q c)), nI (q 1)) rfl (fun k hk2 => ?_) ?_ (by omega) ?_
  · have hl := near_le (c := c) (ok := fun o => decide (q (85 + 4 * o + 1) ≠ c) && aliv q o) (at_ := fun o => q (85 + 4 * o + 1)) k (fun i h => (hv.2.2.2 i (by omega)).2.1)
    simp only [near]
    generalize near c (fun o => decide (q (85 + 4 * o + 1) ≠ c) && aliv q o) (fun o => q (85 + 4 * o + 1)) k = m at hl ⊢
    have hd0 : q (85 + 4 * k + 1) < 36 := (hv.2.2.2 k (by omega)).2.1
    have hd := dst_lt hc hd0
    rw [if_neg (nI_ge hk2 (by omega)), e2_seedAt n hk2 hk8, Option.bind_some, Option.elim_some, hp k (by omega)]
    by_cases h1 : q (85 + 4 * k + 1) = c
    · have hok : (decide (q (85 + 4 * k + 1) ≠ c) && aliv q k) = false := by simp [h1]
      rw [if_pos (by rw [h1])]
      simp only [hok, Bool.false_eq_true, false_and, if_false, z_1, nI_add]
    · rw [if_neg (fun h => h1 ((nI_eq (by omega) (by omega)).mp h)), e3_isAlive n hk ha hv (by omega), Option.bind_some]
      cases h2 : aliv q k with
      | false =>
        have hok : (decide (q (85 + 4 * k + 1) ≠ c) && false) = false := by simp
        rw [if_pos (by rfl)]
        simp only [hok, Bool.false_eq_true, false_and, if_false, z_1, nI_add]
      | true =>
        have hok : (decide (q (85 + 4 * k + 1) ≠ c) && true) = true := by simp [h1]
        rw [if_neg (by decide), e_distance n hc hd0, Option.bind_some]
        by_cases h3 : m = 36
        · subst h3
          rw [if_pos rfl, if_neg (nI_ge (by omega) (by decide)), Option.bind_some]
          simp only [hok, true_and, true_or, if_true, z_1, nI_add]
          rw [if_neg (by omega), nbI_T hd0]
        · have h4 : m < 36 := by omega
          have hd2 := dst_lt hc h4
          rw [if_neg h3]
          by_cases h5 : dst c (q (85 + 4 * k + 1)) < dst c m
          · rw [if_neg (nI_ge h5 (by omega)), Option.bind_some]
            simp only [hok, h3, h5, true_and, false_or, if_true, z_1, nI_add]
            rw [if_neg (by omega), nbI_T hd0]
          · rw [if_pos (nI_le (by omega) (by omega))]
            simp only [hok, h3, h5, true_and, false_or, if_false, z_1, nI_add]
  · show (if nI (q 1) ≤ nI (q 1) then _ else _) = _
    rw [if_pos (nI_le (Nat.le_refl _) (by omega))]; rfl
  · have hl := nhd_le hv c
    by_cases h : nhd q c = 36
    · show (if 0 ≤ nbI (nhd q c) then _ else _) = _
      rw [if_pos h, h, nbI_F (by decide), if_neg (by decide), e2_nearestWater n hn hw ((hp j hj).trans (by rw [hcc])) hc]; rfl
    · show (if 0 ≤ nbI (nhd q c) then _ else _) = _
      rw [if_neg h, nbI_T (by omega), if_pos (nI_pos' (by omega))]
      show some (nI (nhd q c)) = some (nbI (if nhd q c = 36 then nwat q c else nhd q c))
      rw [if_neg h, nbI_T (by omega)]
theorem e7_nearestHead (n : Nat) (hn : 40 ≤ n) {s : Nat} {r lives : Nat → Int32} {q : Nat → Nat} {e : Nat → Int32} {b : Nat} (hr : RM r q e) (hl : LV lives) (hv : IV b q) (hs : s < 8) : fX7_nearestHead n (nI s) r lives = some (nbI (nhd q (q (85 + 4 * s + 1)))) := by
  have hc : q (85 + 4 * s + 1) < 36 := (hv.2.2.2 s hs).2.1
  have hk8 := hv.1
  have h1r : r (1 : Int32).toNatClampNeg = nI (q 1) := hr.at 1 (by decide) (by decide)
  unfold fX7_nearestHead
  rw [e7_seedK n z_1 hr hs (by decide), Option.bind_some, h1r]
  generalize hcc : q (85 + 4 * s + 1) = c at hc ⊢
  refine lpb (fun k => (nbI (near c (fun o => decide (q (85 + 4 * o + 1) ≠ c) && aliv q o) (fun o => q (85 + 4 * o + 1)) k), nI k)) (q 1) (nbI (nhd q c), nI (q 1)) rfl (fun k hk2 => ?_) ?_ (by omega) rfl
  · have hl2 := near_le (c := c) (ok := fun o => decide (q (85 + 4 * o + 1) ≠ c) && aliv q o) (at_ := fun o => q (85 + 4 * o + 1)) k (fun i h => (hv.2.2.2 i (by omega)).2.1)
    simp only [near]
    generalize near c (fun o => decide (q (85 + 4 * o + 1) ≠ c) && aliv q o) (fun o => q (85 + 4 * o + 1)) k = m at hl2 ⊢
    have hd0 : q (85 + 4 * k + 1) < 36 := (hv.2.2.2 k (by omega)).2.1
    have hd := dst_lt hc hd0
    rw [if_neg (nI_ge hk2 (by omega)), e7_seedK n z_1 hr (by omega) (by decide), Option.bind_some]
    by_cases h1 : q (85 + 4 * k + 1) = c
    · have hok : (decide (q (85 + 4 * k + 1) ≠ c) && aliv q k) = false := by simp [h1]
      rw [if_pos (by rw [h1])]
      simp only [hok, Bool.false_eq_true, false_and, if_false, z_1, nI_add]
    · rw [if_neg (fun h => h1 ((nI_eq (by omega) (by omega)).mp h)), e7_isAlive n hr hl hv (by omega), Option.bind_some]
      cases h2 : aliv q k with
      | false =>
        have hok : (decide (q (85 + 4 * k + 1) ≠ c) && false) = false := by simp
        rw [if_pos (by rfl)]
        simp only [hok, Bool.false_eq_true, false_and, if_false, z_1, nI_add]
      | true =>
        have hok : (decide (q (85 + 4 * k + 1) ≠ c) && true) = true := by simp [h1]
        rw [if_neg (by decide)]
        by_cases h3 : m = 36
        · subst h3
          rw [if_pos (by decide)]
          simp only [hok, true_and, true_or, if_true, z_1, nI_add]
          rw [nbI_T hd0]
        · have h4 : m < 36 := by omega
          have hd2 := dst_lt hc h4
          rw [nbI_T h4, if_neg (nI_pos (by omega)), e_apartOf n hc hd0, Option.bind_some, e_apartOf n hc h4, Option.bind_some]
          by_cases h5 : dst c (q (85 + 4 * k + 1)) < dst c m
          · rw [if_neg (nI_ge h5 (by omega))]
            simp only [hok, h3, h5, true_and, false_or, if_true, z_1, nI_add]
            rw [nbI_T hd0]
          · rw [if_pos (nI_le (by omega) (by omega))]
            simp only [hok, h3, h5, true_and, false_or, if_false, z_1, nI_add]
            rw [nbI_T h4]
  · show (if nI (q 1) ≤ nI (q 1) then _ else _) = _
    rw [if_pos (nI_le (Nat.le_refl _) (by omega))]; rfl
