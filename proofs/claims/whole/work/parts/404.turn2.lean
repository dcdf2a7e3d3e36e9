/-! the same of the program's rows -/
theorem lpb {σ ρ α : Type} {b : σ → Option (σ ⊕ ρ)} {kont : ρ → Option α} {s0 : σ} {res : Option α} (e : Nat → σ) (N : Nat) (v : ρ) (h0 : e 0 = s0) (hb : ∀ k, k < N → b (e k) = some (.inl (e (k + 1)))) (hN : b (e N) = some (.inr v)) {n : Nat} (hn : N < n) (hk : kont v = res) : (lp b n s0).bind kont = res := by
  rw [lp_it e N h0 hb hN hn]; exact hk
theorem e2_nearestWater (n : Nat) (hn : 40 ≤ n) {j c : Nat} {water : Int64} {place : Nat → Int32} {q : Nat → Nat} (hw : RS water q 1) (hp : place j = nI c) (hc : c < 36) : fX2_nearestWater n j water place = some (nbI (nwat q c)) := by
  unfold fX2_nearestWater
  refine lpb (fun k => (nbI (near c (fun w => decide (q (13 + w) = 1)) (fun w => w) k), nI (if near c (fun w => decide (q (13 + w) = 1)) (fun w => w) k = 36 then 36 else dst c (near c (fun w => decide (q (13 + w) = 1)) (fun w => w) k)), nI k)) 36 (nbI (nwat q c), nI (if nwat q c = 36 then 36 else dst c (nwat q c)), nI 36) rfl (fun k hk => ?_) ?_ (by omega) rfl
  · have hl := near_le (c := c) (ok := fun w => decide (q (13 + w) = 1)) (at_ := fun w => w) k (fun i h => by omega)
    have hwk := hw k
    have hd := dst_lt hc hk
    simp only [near]
    generalize near c (fun w => decide (q (13 + w) = 1)) (fun w => w) k = b at hl ⊢
    by_cases h1 : q (13 + k) = 1
    · have h2 : bq water k = true := by rw [hwk]; simp [h1, hk]
      by_cases h3 : b = 36
      · subst h3
        simp (disch := omega) only [z_0, z_1, z_2, z_3, z_4, z_5, z_6, z_7, z_8, z_9, z_10, z_11, z_12, z_13, z_14, z_15, z_16, z_20, z_30, z_32, z_35, z_36, z_37, z_40, z_48, z_49, z_57, z_59, z_60, z_64, z_85, z_97, z_99, z_117, z_120, z_122, z_127, z_255, z_999, z_1000, z_12345, z_99999, Option.bind_some, Option.bind_none, Option.elim_some, Option.elim_none, Sum.elim_inl, Sum.elim_inr, if_true, if_false, ite_true, ite_false, not_true_eq_false, not_false_eq_true, eq_self, Nat.zero_add, Nat.add_zero, nI_add, nI_clamp, nI_leT, nI_leF, nI_ltT, nI_ltF, nI_eqT, nI_eqF, vi_T, pk_sub, pk_mul, pk_div, m1_lt, m1_le, m1_nlt, m1_nle, m1_ne, m1_ne', z_m1', e_bit, bq_test (show k < 64 by omega), h2, h1, hp, e_distance, decide_true, true_and, true_or, nbI_T, Bool.true_eq_false]
        rw [if_neg (by omega)]
      · have h4 : b < 36 := by omega
        have hd2 := dst_lt hc h4
        by_cases h5 : dst c k < dst c b
        · simp (disch := omega) only [z_0, z_1, z_2, z_3, z_4, z_5, z_6, z_7, z_8, z_9, z_10, z_11, z_12, z_13, z_14, z_15, z_16, z_20, z_30, z_32, z_35, z_36, z_37, z_40, z_48, z_49, z_57, z_59, z_60, z_64, z_85, z_97, z_99, z_117, z_120, z_122, z_127, z_255, z_999, z_1000, z_12345, z_99999, Option.bind_some, Option.bind_none, Option.elim_some, Option.elim_none, Sum.elim_inl, Sum.elim_inr, if_true, if_false, ite_true, ite_false, not_true_eq_false, not_false_eq_true, eq_self, Nat.zero_add, Nat.add_zero, nI_add, nI_clamp, nI_leT, nI_leF, nI_ltT, nI_ltF, nI_eqT, nI_eqF, vi_T, pk_sub, pk_mul, pk_div, m1_lt, m1_le, m1_nlt, m1_nle, m1_ne, m1_ne', z_m1', e_bit, bq_test (show k < 64 by omega), h2, h1, h3, h5, hp, e_distance, decide_true, true_and, false_or, nbI_T, Bool.true_eq_false]
          rw [if_neg (by omega)]
        · simp (disch := omega) only [z_0, z_1, z_2, z_3, z_4, z_5, z_6, z_7, z_8, z_9, z_10, z_11, z_12, z_13, z_14, z_15, z_16, z_20, z_30, z_32, z_35, z_36, z_37, z_40, z_48, z_49, z_57, z_59, z_60, z_64, z_85, z_97, z_99, z_117, z_120, z_122, z_127, z_255, z_999, z_1000, z_12345, z_99999, Option.bind_some, Option.bind_none, Option.elim_some, Option.elim_none, Sum.elim_inl, Sum.elim_inr, if_true, if_false, ite_true, ite_false, not_true_eq_false, not_false_eq_true, eq_self, Nat.zero_add, Nat.add_zero, nI_add, nI_clamp, nI_leT, nI_leF, nI_ltT, nI_ltF, nI_eqT, nI_eqF, vi_T, pk_sub, pk_mul, pk_div, m1_lt, m1_le, m1_nlt, m1_nle, m1_ne, m1_ne', z_m1', e_bit, bq_test (show k < 64 by omega), h2, h1, h3, h5, hp, e_distance, decide_true, true_and, false_or, nbI_T, Bool.true_eq_false]
    · have h2 : bq water k = false := by rw [hwk]; simp [h1]
      simp (disch := omega) only [z_0, z_1, z_2, z_3, z_4, z_5, z_6, z_7, z_8, z_9, z_10, z_11, z_12, z_13, z_14, z_15, z_16, z_20, z_30, z_32, z_35, z_36, z_37, z_40, z_48, z_49, z_57, z_59, z_60, z_64, z_85, z_97, z_99, z_117, z_120, z_122, z_127, z_255, z_999, z_1000, z_12345, z_99999, Option.bind_some, Option.bind_none, Option.elim_some, Option.elim_none, Sum.elim_inl, Sum.elim_inr, if_true, if_false, ite_true, ite_false, not_true_eq_false, not_false_eq_true, eq_self, Nat.zero_add, Nat.add_zero, nI_add, nI_clamp, nI_leT, nI_leF, nI_ltT, nI_ltF, nI_eqT, nI_eqF, vi_T, pk_sub, pk_mul, pk_div, m1_lt, m1_le, m1_nlt, m1_nle, m1_ne, m1_ne', z_m1', e_bit, bq_test (show k < 64 by omega), h2, h1, decide_false, false_and, Bool.false_eq_true]
  · simp (disch := omega) only [z_0, z_1, z_2, z_3, z_4, z_5, z_6, z_7, z_8, z_9, z_10, z_11, z_12, z_13, z_14, z_15, z_16, z_20, z_30, z_32, z_35, z_36, z_37, z_40, z_48, z_49, z_57, z_59, z_60, z_64, z_85, z_97, z_99, z_117, z_120, z_122, z_127, z_255, z_999, z_1000, z_12345, z_99999, Option.bind_some, Option.bind_none, Option.elim_some, Option.elim_none, Sum.elim_inl, Sum.elim_inr, if_true, if_false, ite_true, ite_false, not_true_eq_false, not_false_eq_true, eq_self, Nat.zero_add, Nat.add_zero, nI_add, nI_clamp, nI_leT, nI_leF, nI_ltT, nI_ltF, nI_eqT, nI_eqF, vi_T, pk_sub, pk_mul, pk_div, m1_lt, m1_le, m1_nlt, m1_nle, m1_ne, m1_ne', z_m1', nwat]
    rfl
theorem e7_nearestWater (n : Nat) (hn : 40 ≤ n) {c : Nat} {r : Nat → Int32} {q : Nat → Nat} {e : Nat → Int32} {b0 : Nat} (hr : RM r q e) (hv : IV b0 q) (hc : c < 36) : fX7_nearestWater n (nI c) r = some (nbI (nwat q c)) := by
  unfold fX7_nearestWater
  refine lpb (fun k => (nbI (near c (fun w => decide (q (13 + w) = 1)) (fun w => w) k), nI k)) 36 (nbI (nwat q c), nI 36) rfl (fun k hk => ?_) ?_ (by omega) rfl
  · have hl := near_le (c := c) (ok := fun w => decide (q (13 + w) = 1)) (at_ := fun w => w) k (fun i h => by omega)
    have hrk := hr.at (13 + k) (by omega) (by omega)
    have hvk := (hv.2.2.1 k hk).2.1
    have hd := dst_lt hc hk
    simp only [near]
    generalize near c (fun w => decide (q (13 + w) = 1)) (fun w => w) k = b at hl ⊢
    by_cases h1 : q (13 + k) = 1
    · by_cases h3 : b = 36
      · subst h3
        simp (disch := omega) only [z_0, z_1, z_2, z_3, z_4, z_5, z_6, z_7, z_8, z_9, z_10, z_11, z_12, z_13, z_14, z_15, z_16, z_20, z_30, z_32, z_35, z_36, z_37, z_40, z_48, z_49, z_57, z_59, z_60, z_64, z_85, z_97, z_99, z_117, z_120, z_122, z_127, z_255, z_999, z_1000, z_12345, z_99999, Option.bind_some, Option.bind_none, Option.elim_some, Option.elim_none, Sum.elim_inl, Sum.elim_inr, if_true, if_false, ite_true, ite_false, not_true_eq_false, not_false_eq_true, eq_self, Nat.zero_add, Nat.add_zero, nI_add, nI_clamp, nI_leT, nI_leF, nI_ltT, nI_ltF, nI_eqT, nI_eqF, vi_T, pk_sub, pk_mul, pk_div, m1_lt, m1_le, m1_nlt, m1_nle, m1_ne, m1_ne', z_m1', hrk, h1, decide_true, true_and, true_or, nbI_T, nbI_F, m1_lt]
      · have h4 : b < 36 := by omega
        have hd2 := dst_lt hc h4
        by_cases h5 : dst c k < dst c b
        · simp (disch := omega) only [z_0, z_1, z_2, z_3, z_4, z_5, z_6, z_7, z_8, z_9, z_10, z_11, z_12, z_13, z_14, z_15, z_16, z_20, z_30, z_32, z_35, z_36, z_37, z_40, z_48, z_49, z_57, z_59, z_60, z_64, z_85, z_97, z_99, z_117, z_120, z_122, z_127, z_255, z_999, z_1000, z_12345, z_99999, Option.bind_some, Option.bind_none, Option.elim_some, Option.elim_none, Sum.elim_inl, Sum.elim_inr, if_true, if_false, ite_true, ite_false, not_true_eq_false, not_false_eq_true, eq_self, Nat.zero_add, Nat.add_zero, nI_add, nI_clamp, nI_leT, nI_leF, nI_ltT, nI_ltF, nI_eqT, nI_eqF, vi_T, pk_sub, pk_mul, pk_div, m1_lt, m1_le, m1_nlt, m1_nle, m1_ne, m1_ne', z_m1', hrk, h1, h3, h5, e_apartOf, decide_true, true_and, false_or, nbI_T]
        · simp (disch := omega) only [z_0, z_1, z_2, z_3, z_4, z_5, z_6, z_7, z_8, z_9, z_10, z_11, z_12, z_13, z_14, z_15, z_16, z_20, z_30, z_32, z_35, z_36, z_37, z_40, z_48, z_49, z_57, z_59, z_60, z_64, z_85, z_97, z_99, z_117, z_120, z_122, z_127, z_255, z_999, z_1000, z_12345, z_99999, Option.bind_some, Option.bind_none, Option.elim_some, Option.elim_none, Sum.elim_inl, Sum.elim_inr, if_true, if_false, ite_true, ite_false, not_true_eq_false, not_false_eq_true, eq_self, Nat.zero_add, Nat.add_zero, nI_add, nI_clamp, nI_leT, nI_leF, nI_ltT, nI_ltF, nI_eqT, nI_eqF, vi_T, pk_sub, pk_mul, pk_div, m1_lt, m1_le, m1_nlt, m1_nle, m1_ne, m1_ne', z_m1', hrk, h1, h3, h5, e_apartOf, decide_true, true_and, false_or, nbI_T]
    · simp (disch := omega) only [z_0, z_1, z_2, z_3, z_4, z_5, z_6, z_7, z_8, z_9, z_10, z_11, z_12, z_13, z_14, z_15, z_16, z_20, z_30, z_32, z_35, z_36, z_37, z_40, z_48, z_49, z_57, z_59, z_60, z_64, z_85, z_97, z_99, z_117, z_120, z_122, z_127, z_255, z_999, z_1000, z_12345, z_99999, Option.bind_some, Option.bind_none, Option.elim_some, Option.elim_none, Sum.elim_inl, Sum.elim_inr, if_true, if_false, ite_true, ite_false, not_true_eq_false, not_false_eq_true, eq_self, Nat.zero_add, Nat.add_zero, nI_add, nI_clamp, nI_leT, nI_leF, nI_ltT, nI_ltF, nI_eqT, nI_eqF, vi_T, pk_sub, pk_mul, pk_div, m1_lt, m1_le, m1_nlt, m1_nle, m1_ne, m1_ne', z_m1', hrk, h1, decide_false, false_and, Bool.false_eq_true]
  · simp (disch := omega) only [z_0, z_1, z_2, z_3, z_4, z_5, z_6, z_7, z_8, z_9, z_10, z_11, z_12, z_13, z_14, z_15, z_16, z_20, z_30, z_32, z_35, z_36, z_37, z_40, z_48, z_49, z_57, z_59, z_60, z_64, z_85, z_97, z_99, z_117, z_120, z_122, z_127, z_255, z_999, z_1000, z_12345, z_99999, Option.bind_some, Option.bind_none, Option.elim_some, Option.elim_none, Sum.elim_inl, Sum.elim_inr, if_true, if_false, ite_true, ite_false, not_true_eq_false, not_false_eq_true, eq_self, Nat.zero_add, Nat.add_zero, nI_add, nI_clamp, nI_leT, nI_leF, nI_ltT, nI_ltF, nI_eqT, nI_eqF, vi_T, pk_sub, pk_mul, pk_div, m1_lt, m1_le, m1_nlt, m1_nle, m1_ne, m1_ne', z_m1', nwat]
theorem e2_toward (n : Nat) (hn : 10 ≤ n) {j c g : Nat} {place facing : Nat → Int32} (hp : place j = nI c) (hc : c < 36) (hg : g ≤ 36) : fX2_toward n j (nbI g) place facing = some (if g < 36 ∧ tws c g < 4 then nI (tws c g) else facing j) := by
  unfold fX2_toward
  by_cases h : g = 36
  · subst h
    simp (disch := omega) only [z_0, z_1, z_2, z_3, z_4, z_5, z_6, z_7, z_8, z_9, z_10, z_11, z_12, z_13, z_14, z_15, z_16, z_20, z_30, z_32, z_35, z_36, z_37, z_40, z_48, z_49, z_57, z_59, z_60, z_64, z_85, z_97, z_99, z_117, z_120, z_122, z_127, z_255, z_999, z_1000, z_12345, z_99999, Option.bind_some, Option.bind_none, Option.elim_some, Option.elim_none, Sum.elim_inl, Sum.elim_inr, if_true, if_false, ite_true, ite_false, not_true_eq_false, not_false_eq_true, eq_self, Nat.zero_add, Nat.add_zero, nI_add, nI_clamp, nI_leT, nI_leF, nI_ltT, nI_ltF, nI_eqT, nI_eqF, vi_T, pk_sub, pk_mul, pk_div, m1_lt, m1_le, m1_nlt, m1_nle, m1_ne, m1_ne', z_m1', nbI_F, Nat.lt_irrefl, false_and]
  · have hg' : g < 36 := by omega
    have hle : tws c g ≤ 4 := fs_le _ 4
    simp (disch := omega) only [z_0, z_1, z_2, z_3, z_4, z_5, z_6, z_7, z_8, z_9, z_10, z_11, z_12, z_13, z_14, z_15, z_16, z_20, z_30, z_32, z_35, z_36, z_37, z_40, z_48, z_49, z_57, z_59, z_60, z_64, z_85, z_97, z_99, z_117, z_120, z_122, z_127, z_255, z_999, z_1000, z_12345, z_99999, Option.bind_some, Option.bind_none, Option.elim_some, Option.elim_none, Sum.elim_inl, Sum.elim_inr, if_true, if_false, ite_true, ite_false, not_true_eq_false, not_false_eq_true, eq_self, Nat.zero_add, Nat.add_zero, nI_add, nI_clamp, nI_leT, nI_leF, nI_ltT, nI_ltF, nI_eqT, nI_eqF, vi_T, pk_sub, pk_mul, pk_div, m1_lt, m1_le, m1_nlt, m1_nle, m1_ne, m1_ne', z_m1', nbI_T, hp, e_distance]
    have hstep : ∀ k, k < tws c g → ∀ (X : Option (Int32 ⊕ (Int32 ⊕ Int32))), (if (nI 4) ≤ nI k then X else ((fX0_neighbour n (nI c) (nI k)).bind (fun q7 => (if q7 < nI 0 then some (.inl ((nI k) + (nI 1))) else ((fX0_distance n q7 (nI g)).bind (fun q10 => (if nI (dst c g) ≤ q10 then some (.inl ((nI k) + (nI 1))) else some (.inr (.inr (nI k)))))))))) = some (.inl (nI (k + 1))) := by
      intro k hk X
      have hno := fs_no _ 4 k hk
      have hnb := nbc_le c k hc
      have hd1 := dst_lt hc hg'
      by_cases h1 : nbc c k < 36
      · have hd2 := dst_lt h1 hg'
        have h2 : dst c g ≤ dst (nbc c k) g := by
          simp [h1] at hno; exact hno
        simp (disch := omega) only [z_0, z_1, z_2, z_3, z_4, z_5, z_6, z_7, z_8, z_9, z_10, z_11, z_12, z_13, z_14, z_15, z_16, z_20, z_30, z_32, z_35, z_36, z_37, z_40, z_48, z_49, z_57, z_59, z_60, z_64, z_85, z_97, z_99, z_117, z_120, z_122, z_127, z_255, z_999, z_1000, z_12345, z_99999, Option.bind_some, Option.bind_none, Option.elim_some, Option.elim_none, Sum.elim_inl, Sum.elim_inr, if_true, if_false, ite_true, ite_false, not_true_eq_false, not_false_eq_true, eq_self, Nat.zero_add, Nat.add_zero, nI_add, nI_clamp, nI_leT, nI_leF, nI_ltT, nI_ltF, nI_eqT, nI_eqF, vi_T, pk_sub, pk_mul, pk_div, m1_lt, m1_le, m1_nlt, m1_nle, m1_ne, m1_ne', z_m1', e_neighbour, nbI_T, e_distance]
      · simp (disch := omega) only [z_0, z_1, z_2, z_3, z_4, z_5, z_6, z_7, z_8, z_9, z_10, z_11, z_12, z_13, z_14, z_15, z_16, z_20, z_30, z_32, z_35, z_36, z_37, z_40, z_48, z_49, z_57, z_59, z_60, z_64, z_85, z_97, z_99, z_117, z_120, z_122, z_127, z_255, z_999, z_1000, z_12345, z_99999, Option.bind_some, Option.bind_none, Option.elim_some, Option.elim_none, Sum.elim_inl, Sum.elim_inr, if_true, if_false, ite_true, ite_false, not_true_eq_false, not_false_eq_true, eq_self, Nat.zero_add, Nat.add_zero, nI_add, nI_clamp, nI_leT, nI_leF, nI_ltT, nI_ltF, nI_eqT, nI_eqF, vi_T, pk_sub, pk_mul, pk_div, m1_lt, m1_le, m1_nlt, m1_nle, m1_ne, m1_ne', z_m1', e_neighbour, nbI_F]
    by_cases h4 : tws c g < 4
    · refine lpb (fun k => nI k) (tws c g) (.inr (nI (tws c g))) rfl (fun k hk => ?_) ?_ (by omega) ?_
      · exact hstep k hk _
      · have hy := fs_yes _ 4 h4
        have hd1 := dst_lt hc hg'
        simp only [Bool.and_eq_true, decide_eq_true_eq] at hy
        have hy1 : nbc c (tws c g) < 36 := hy.1
        have hy2 : dst (nbc c (tws c g)) g < dst c g := hy.2
        simp (disch := omega) only [z_0, z_1, z_2, z_3, z_4, z_5, z_6, z_7, z_8, z_9, z_10, z_11, z_12, z_13, z_14, z_15, z_16, z_20, z_30, z_32, z_35, z_36, z_37, z_40, z_48, z_49, z_57, z_59, z_60, z_64, z_85, z_97, z_99, z_117, z_120, z_122, z_127, z_255, z_999, z_1000, z_12345, z_99999, Option.bind_some, Option.bind_none, Option.elim_some, Option.elim_none, Sum.elim_inl, Sum.elim_inr, if_true, if_false, ite_true, ite_false, not_true_eq_false, not_false_eq_true, eq_self, Nat.zero_add, Nat.add_zero, nI_add, nI_clamp, nI_leT, nI_leF, nI_ltT, nI_ltF, nI_eqT, nI_eqF, vi_T, pk_sub, pk_mul, pk_div, m1_lt, m1_le, m1_nlt, m1_nle, m1_ne, m1_ne', z_m1', e_neighbour, nbI_T, e_distance]
      · simp only [Sum.elim_inr, hg', h4, and_self, if_true]
    · have h5 : tws c g = 4 := by omega
      refine lpb (fun k => nI k) 4 (.inl (nI 4)) rfl (fun k hk => ?_) ?_ (by omega) ?_
      · exact hstep k (by omega) _
      · simp (disch := omega) only [z_0, z_1, z_2, z_3, z_4, z_5, z_6, z_7, z_8, z_9, z_10, z_11, z_12, z_13, z_14, z_15, z_16, z_20, z_30, z_32, z_35, z_36, z_37, z_40, z_48, z_49, z_57, z_59, z_60, z_64, z_85, z_97, z_99, z_117, z_120, z_122, z_127, z_255, z_999, z_1000, z_12345, z_99999, Option.bind_some, Option.bind_none, Option.elim_some, Option.elim_none, Sum.elim_inl, Sum.elim_inr, if_true, if_false, ite_true, ite_false, not_true_eq_false, not_false_eq_true, eq_self, Nat.zero_add, Nat.add_zero, nI_add, nI_clamp, nI_leT, nI_leF, nI_ltT, nI_ltF, nI_eqT, nI_eqF, vi_T, pk_sub, pk_mul, pk_div, m1_lt, m1_le, m1_nlt, m1_nle, m1_ne, m1_ne', z_m1']
      · simp only [Sum.elim_inl, h4, and_false, if_false]
theorem e7_tw1 (n : Nat) {c g k : Nat} (hc : c < 36) (hg : g < 36) (hk4 : k < 4) (hno : (decide (nbc c k < 36) && decide (dst (nbc c k) g < dst c g)) = false) : ((fX7_beside n (nI c) (nI k)).bind (fun q3 => (if q3 < 0 then some (.inl (nI k + (1 : Int32))) else ((fX7_beside n (nI c) (nI k)).bind (fun q6 => ((fX7_apartOf n q6 (nI g)).bind (fun q8 => ((fX7_apartOf n (nI c) (nI g)).bind (fun q10 => (if q8 < q10 then some (.inr (nI k)) else some (.inl (nI k + (1 : Int32)))))))))))) : Option (Int32 ⊕ Int32)) = some (.inl (nI (k + 1))) := by
  have hnb := nbc_le c k hc
  have hd1 := dst_lt hc hg
  by_cases h1 : nbc c k < 36
  · have hd2 := dst_lt h1 hg
    have h2 : dst c g ≤ dst (nbc c k) g := by
      simp [h1] at hno; exact hno
    have hlt : ¬ nI (dst (nbc c k) g) < nI (dst c g) := nI_nlt h2 (by omega)
    rw [e_beside n hc hk4, Option.bind_some, nbI_T h1, if_neg (nI_pos (by omega)), Option.bind_some, e_apartOf n h1 hg, Option.bind_some, e_apartOf n hc hg, Option.bind_some, if_neg hlt, z_1, nI_add]
  · rw [e_beside n hc hk4, Option.bind_some, nbI_F (by omega), if_pos (by decide), z_1, nI_add]
theorem e7_tw2 (n : Nat) {c g k : Nat} (hc : c < 36) (hg : g < 36) (hk4 : k < 4) (hy1 : nbc c k < 36) (hy2 : dst (nbc c k) g < dst c g) : ((fX7_beside n (nI c) (nI k)).bind (fun q3 => (if q3 < 0 then some (.inl (nI k + (1 : Int32))) else ((fX7_beside n (nI c) (nI k)).bind (fun q6 => ((fX7_apartOf n q6 (nI g)).bind (fun q8 => ((fX7_apartOf n (nI c) (nI g)).bind (fun q10 => (if q8 < q10 then some (.inr (nI k)) else some (.inl (nI k + (1 : Int32)))))))))))) : Option (Int32 ⊕ Int32)) = some (.inr (nI k)) := by
  have hd1 := dst_lt hc hg
  have hlt : nI (dst (nbc c k) g) < nI (dst c g) := nI_lt hy2 (by omega)
  rw [e_beside n hc hk4, Option.bind_some, nbI_T hy1, if_neg (nI_pos (by omega)), Option.bind_some, e_apartOf n hy1 hg, Option.bind_some, e_apartOf n hc hg, Option.bind_some, if_pos hlt]
theorem e7_toward (n : Nat) (hn : 10 ≤ n) {c g : Nat} (hc : c < 36) (hg : g < 36) (hne : c ≠ g) : fX7_toward n (nI c) (nI g) = some (nI (tws c g)) := by
  have h4 := tws_lt hc hg hne
  have hy := fs_yes _ 4 h4
  simp only [Bool.and_eq_true, decide_eq_true_eq] at hy
  unfold fX7_toward
  refine lpb (fun k => nI k) (tws c g) (nI (tws c g)) rfl (fun k hk => ?_) ?_ (by omega) rfl
  · exact e7_tw1 n hc hg (by omega) (fs_no _ 4 k hk)
  · exact e7_tw2 n hc hg h4 hy.1 hy.2
