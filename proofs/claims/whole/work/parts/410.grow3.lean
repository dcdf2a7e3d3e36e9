/-! a seed goes on: the reference -/
theorem e7_isGrassR (n : Nat) {c : Nat} {r : Nat → Int32} (hc : c < 36) : fX7_isGrass n (nI c) r = some (if r (13 + c) = nI 0 then nI 1 else nI 0) := by
  unfold fX7_isGrass
  rw [z_13, nI_add, if_pos (vi_N (by omega) (by decide)), nI_clamp (by omega)]
  by_cases h : r (13 + c) = nI 0
  · have h' : r (13 + c) = 0 := h
    rw [if_pos h', if_pos h]; rfl
  · have h' : ¬ r (13 + c) = 0 := h
    rw [if_neg h', if_neg h]; rfl
theorem e7_isGrass (n : Nat) {c : Nat} {r : Nat → Int32} {q : Nat → Nat} {e : Nat → Int32} {b : Nat} (hr : RM r q e) (hv : IV b q) (hc : c < 36) : fX7_isGrass n (nI c) r = some (if q (13 + c) = 0 then nI 1 else nI 0) := by
  have h := (hv.2.2.1 c hc).2.1
  rw [e7_isGrassR n hc, hr.at (13 + c) (by omega) (by omega)]
  by_cases h0 : q (13 + c) = 0
  · rw [if_pos (by rw [h0]), if_pos h0]
  · rw [if_neg (nIneK rfl h0 (by omega) (by decide)), if_neg h0]
set_option maxHeartbeats 1000000 in
theorem e7_tail (n : Nat) {s hd to : Nat} {v : Int32} (hvt : v = nI to) {r treads : Nat → Int32} {q : Nat → Nat} {e : Nat → Int32} {b : Nat} (hr : RM r q e) (ht : TR treads) (hv : IV b q) (hs : s < 8) (hh : hd < 36) :
    (((fX7_at n (nI s) (2 : Int32)).bind (fun q59 => (if vi q59 117 then ((fX7_at n (nI s) (1 : Int32)).bind (fun q62 => (if vi q62 117 then ((fX7_isGrass n (nI hd) (upd (upd r q59.toNatClampNeg v) q62.toNatClampNeg (nI hd))).bind (fun q65 => (if q65 = 0 then (if vi ((49 : Int32) + (nI hd)) 117 then (if vi ((49 : Int32) + (nI hd)) 117 then ((fX7_at n (nI s) (3 : Int32)).bind (fun q70 => (if vi q70 117 then (if vi q70 117 then some (upd (upd (upd (upd r q59.toNatClampNeg v) q62.toNatClampNeg (nI hd)) ((49 : Int32) + (nI hd)).toNatClampNeg ((upd (upd r q59.toNatClampNeg v) q62.toNatClampNeg (nI hd)) ((49 : Int32) + (nI hd)).toNatClampNeg)) q70.toNatClampNeg (((upd (upd (upd r q59.toNatClampNeg v) q62.toNatClampNeg (nI hd)) ((49 : Int32) + (nI hd)).toNatClampNeg ((upd (upd r q59.toNatClampNeg v) q62.toNatClampNeg (nI hd)) ((49 : Int32) + (nI hd)).toNatClampNeg)) q70.toNatClampNeg) + (1 : Int32))) else none) else none))) else none) else none) else (if vi ((49 : Int32) + (nI hd)) 117 then ((fX7_seedIs n (nI s) (0 : Int32) (upd (upd r q59.toNatClampNeg v) q62.toNatClampNeg (nI hd))).bind (fun q75 => (if vi q75 7 then (if vi ((49 : Int32) + (nI hd)) 117 then ((fX7_at n (nI s) (3 : Int32)).bind (fun q79 => (if vi q79 117 then (if vi q79 117 then some (upd (upd (upd (upd r q59.toNatClampNeg v) q62.toNatClampNeg (nI hd)) ((49 : Int32) + (nI hd)).toNatClampNeg (if ((upd (upd r q59.toNatClampNeg v) q62.toNatClampNeg (nI hd)) ((49 : Int32) + (nI hd)).toNatClampNeg) < (treads q75.toNatClampNeg) then (treads q75.toNatClampNeg) else ((upd (upd r q59.toNatClampNeg v) q62.toNatClampNeg (nI hd)) ((49 : Int32) + (nI hd)).toNatClampNeg))) q79.toNatClampNeg (((upd (upd (upd r q59.toNatClampNeg v) q62.toNatClampNeg (nI hd)) ((49 : Int32) + (nI hd)).toNatClampNeg (if ((upd (upd r q59.toNatClampNeg v) q62.toNatClampNeg (nI hd)) ((49 : Int32) + (nI hd)).toNatClampNeg) < (treads q75.toNatClampNeg) then (treads q75.toNatClampNeg) else ((upd (upd r q59.toNatClampNeg v) q62.toNatClampNeg (nI hd)) ((49 : Int32) + (nI hd)).toNatClampNeg))) q79.toNatClampNeg) + (1 : Int32))) else none) else none))) else none) else none))) else none)))) else none))) else none))) : Option (Nat → Int32)) = some (upd (upd (upd (upd r (85 + 4 * s + 2) (nI to)) (85 + 4 * s + 1) (nI hd)) (49 + hd) (nI (if q (13 + hd) = 0 ∧ q (49 + hd) < tr (q (85 + 4 * s)) then tr (q (85 + 4 * s)) else q (49 + hd)))) (85 + 4 * s + 3) (nI (q (85 + 4 * s + 3) + 1))) := by
  subst hvt
  have h1 := hv.2.2.2 s hs
  have h2 := trL_lt (q (85 + 4 * s))
  have h3 := hv.2.2.1 hd hh
  have g0 := hr.at (85 + 4 * s) (by omega) (by omega)
  have g3 := hr.at (85 + 4 * s + 3) (by omega) (by omega)
  have gg := hr.at (13 + hd) (by omega) (by omega)
  have gp := hr.at (49 + hd) (by omega) (by omega)
  have htr := ht (q (85 + 4 * s)) (by omega)
  by_cases h0 : q (13 + hd) = 0
  · by_cases h4 : q (49 + hd) < tr (q (85 + 4 * s))
    · simp (disch := omega) only [z_0, z_1, z_2, z_3, z_4, z_5, z_6, z_7, z_8, z_9, z_10, z_11, z_12, z_13, z_14, z_15, z_16, z_20, z_30, z_32, z_35, z_36, z_37, z_40, z_48, z_49, z_57, z_59, z_60, z_64, z_85, z_97, z_99, z_117, z_120, z_122, z_127, z_255, z_999, z_1000, z_12345, z_99999, Option.bind_some, Option.bind_none, Option.elim_some, Option.elim_none, Sum.elim_inl, Sum.elim_inr, if_true, if_false, ite_true, ite_false, not_true_eq_false, not_false_eq_true, eq_self, Nat.zero_add, Nat.add_zero, nI_add, nI_clamp, nI_leT, nI_leF, nI_ltT, nI_ltF, nI_eqT, nI_eqF, vi_T, pk_sub, pk_mul, pk_div, m1_lt, m1_le, m1_nlt, m1_nle, m1_ne, m1_ne', z_m1', fX7_seedIs, e7_at, e7_isGrassR, upd_T, upd_F, g0, g3, gg, gp, htr, h0, h4, and_self, z_85]
    · simp (disch := omega) only [z_0, z_1, z_2, z_3, z_4, z_5, z_6, z_7, z_8, z_9, z_10, z_11, z_12, z_13, z_14, z_15, z_16, z_20, z_30, z_32, z_35, z_36, z_37, z_40, z_48, z_49, z_57, z_59, z_60, z_64, z_85, z_97, z_99, z_117, z_120, z_122, z_127, z_255, z_999, z_1000, z_12345, z_99999, Option.bind_some, Option.bind_none, Option.elim_some, Option.elim_none, Sum.elim_inl, Sum.elim_inr, if_true, if_false, ite_true, ite_false, not_true_eq_false, not_false_eq_true, eq_self, Nat.zero_add, Nat.add_zero, nI_add, nI_clamp, nI_leT, nI_leF, nI_ltT, nI_ltF, nI_eqT, nI_eqF, vi_T, pk_sub, pk_mul, pk_div, m1_lt, m1_le, m1_nlt, m1_nle, m1_ne, m1_ne', z_m1', fX7_seedIs, e7_at, e7_isGrassR, upd_T, upd_F, g0, g3, gg, gp, htr, h0, h4, and_false, z_85]
  · simp (disch := omega) only [z_0, z_1, z_2, z_3, z_4, z_5, z_6, z_7, z_8, z_9, z_10, z_11, z_12, z_13, z_14, z_15, z_16, z_20, z_30, z_32, z_35, z_36, z_37, z_40, z_48, z_49, z_57, z_59, z_60, z_64, z_85, z_97, z_99, z_117, z_120, z_122, z_127, z_255, z_999, z_1000, z_12345, z_99999, Option.bind_some, Option.bind_none, Option.elim_some, Option.elim_none, Sum.elim_inl, Sum.elim_inr, if_true, if_false, ite_true, ite_false, not_true_eq_false, not_false_eq_true, eq_self, Nat.zero_add, Nat.add_zero, nI_add, nI_clamp, nI_leT, nI_leF, nI_ltT, nI_ltF, nI_eqT, nI_eqF, vi_T, pk_sub, pk_mul, pk_div, m1_lt, m1_le, m1_nlt, m1_nle, m1_ne, m1_ne', z_m1', fX7_seedIs, e7_at, e7_isGrassR, upd_T, upd_F, g0, g3, gg, gp, htr, h0, false_and, z_85]
