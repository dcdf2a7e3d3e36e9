/-! THE LAW'S LOOP -/
theorem and63 (x : Int32) : ∃ k, k < 64 ∧ x &&& (63 : Int32) = nI k := by
  refine ⟨(x &&& (63 : Int32)).toBitVec.toNat, ?_, ?_⟩
  · have h : (x &&& (63 : Int32)).toBitVec = x.toBitVec &&& 63#32 := rfl
    rw [h, BitVec.toNat_and]
    exact Nat.lt_of_le_of_lt Nat.and_le_right (by decide)
  · apply Int32.toBitVec_inj.mp
    show _ = BitVec.ofNat 32 _ 
    rw [BitVec.ofNat_toNat, BitVec.setWidth_eq]
theorem t_l6 : ∀ L, L < 6 → nI L - (6 : Int32) < nI 0 := by decide +kernel
theorem lim {i L : Nat} (hi : i ≤ L) (hL : L ≤ 3072) : (nI L - (6 : Int32) < nI i) ↔ ¬ i + 6 ≤ L := by
  by_cases h6 : L < 6
  · refine ⟨fun _ => by omega, fun _ => ?_⟩
    have h1 := t_l6 L h6
    rw [Int32.lt_iff_toInt_lt, nI_toInt (by decide)] at h1
    rw [Int32.lt_iff_toInt_lt, nI_toInt (by omega)]; omega
  · rw [z_6, pk_sub (by omega)]
    constructor
    · intro h h2; exact nI_nlt (show i ≤ L - 6 by omega) (by omega) h
    · intro h; exact nI_lt (by omega) (by omega)
set_option maxHeartbeats 4000000 in
set_option maxRecDepth 100000 in
theorem law_loop {p : Program} {l : Launch} {e : Env} {s : State} {m : MethodId} {below : List Frame} {meth : Method} {c : Code} {g : GC} {g2 : GM} {b L : Nat} {xs : Nat → Int32} (hr : meth.sig.returnType = ret) (hlocks : meth.locks = false) (C0 : LX p s m c b L xs g g2) :
    ∀ (n i b9 : Nat), i ≤ L → L + 1 ≤ i + n → b9 ≤ 7 * i → ∀ (H : Heap) (locs : List Loc), LW s g g2 b9 H locs → ∀ (ls : Array Slot), lv_has ls 4 [(0, .ref b), (1, .ref (ga g 0)), (2, .ref (gm g2 0)), (3, .int (nI i))] → W p l e room_1 s m #[Value.ref b] below meth c H locs 68 1928 (lw_Z below #[Value.ref b] s) (F0 m 18 ls []) := by
  obtain ⟨hx, hb, hml, hown, hts, hX, hbl, hL, hCB, hMB, hCA, hMA, hdj⟩ := id C0
  have hbA : ¬ (fun q : Nat => s.heap.size ≤ q) b := Nat.not_le.mpr hbl
  intro n
  induction n with
  | zero =>
    intro i b9 h1 h2
    exact absurd h2 (by omega)
  | succ n ih =>
    intro i b9 hi hin hb9 H locs hW ls hl
    have hS : va_S (fun q : Nat => s.heap.size ≤ q) s.heap H locs := by
      obtain ⟨p0_paths, p0_water, p0_wall, p0_kind, p0_place, p0_facing, p0_age, p0_seeds, p0_season, p0_z, p0_spots, p1_paths, p1_water, p1_wall, p1_kind, p1_place, p1_facing, p1_age, p1_seeds, p1_season, p1_z, p1_spots, p2_paths, p2_water, p2_wall, p2_kind, p2_place, p2_facing, p2_age, p2_seeds, p2_season, p2_z, p2_spots, t_bytes, t_length, t_sort, t_start, t_end, t_value, h_numbers, h_bits, h_size, w_isKept, w_told, m_now, m_kept, m_aside, m_isKept, m_found, m_steps, m_queue, m_lives, m_treads, m_tape, m_taped, m_begins, m_ends, m_sort, m_value, m_isWrong, m_items, m_itemMany, m_seedThen, m_groundThen, m_widths, m_sizes, m_numbers, m_moved, hR, hP, hQ, hS⟩ := hW
      exact hS
    refine lv_iload_n hx hb dL_law_18 rfl (lv_at hl 3 rfl) ?_
    refine lv_aload_n hx hb dL_law_19 rfl (lv_at hl 0 rfl) ?_
    refine va_slen hx hb hX hbl hbA hS dL_law_20 ?_
    refine lv_bipush (v := (6 : Int32)) hx hb dL_law_21 (by decide) ?_
    refine lv_isub hx hb dL_law_23 ?_
    refine lv_icmp_gt (tgt := 1590) hx hb dL_law_24 (by decide) (fun hc => ?_) (fun hc => ?_)
    · refine lv_iconst (v := (1 : Int32)) hx hb dL_law_1590 (by decide) ?_
      refine va_forget (fun q hq => hS.2.2 q hq) ?_
      refine W.widen (k := 600000) (n := 7302250) (by decide) (by decide) ?_
      exact lw_ret hx hb hr hlocks dL_law_1591
    · have h6 : i + 6 ≤ L := Classical.byContradiction fun h => hc ((lim hi hL).mpr h)
      have kk : ∀ (b2 : Nat), b2 ≤ 7 * (i + 6) → ∀ (H : Heap) (locs : List Loc), LW s g g2 b2 H locs → W p l e room_1 s m #[Value.ref b] below meth c H locs 68 1928 (lw_Z below #[Value.ref b] s) (F0 m 1584 ls []) := by
        intro b2 hb2 H locs hW2
        refine lv_iinc (v := nI (i + 6)) (lv' := [(3, .int (nI (i + 6))), (0, .ref b), (1, .ref (ga g 0)), (2, .ref (gm g2 0))]) hx hb dL_law_1584 hl (k := 3) rfl (by rw [← nI_add, ← z_6]; rfl) (by decide) rfl (fun ls hl => ?_)
        refine lv_goto (tgt := 18) hx hb dL_law_1587 (by decide) ?_
        exact ih (i + 6) b2 h6 (by omega) hb2 H locs hW2 ls (lv_sub hl [1, 2, 3, 0] rfl)
      have kk1 : ∀ (H : Heap) (locs : List Loc), LW s g g2 (b9 + 40) H locs → W p l e room_1 s m #[Value.ref b] below meth c H locs 68 1928 (lw_Z below #[Value.ref b] s) (F0 m 1584 ls []) := kk (b9 + 40) (by omega)
      refine lv_aload_n hx hb dL_law_27 rfl (lv_at hl 0 rfl) ?_
      refine lv_iload_n hx hb dL_law_28 rfl (lv_at hl 3 rfl) ?_
      refine va_sld hx hb hX hbl hbA hS (vp_in_nI (show i < L by omega) (by omega)) dL_law_29 ?_
      refine lv_bipush (v := (63 : Int32)) hx hb dL_law_30 (by decide) ?_
      refine lv_iand hx hb dL_law_32 ?_
      obtain ⟨k, hk, hke⟩ := and63 (xs (nI i).toNatClampNeg)
      rw [hke]
      by_cases h46 : k < 46
      · have hb70 : b9 < 70000 := by omega
        match k, h46 with
        | 0, _ => exact lv_tableIn (tgt := 232) hx hb dL_law_33 (by decide) (by decide) rfl (by decide) (lc_ground C0 h6 hb70 hW hl kk1)
        | 1, _ => exact lv_tableIn (tgt := 265) hx hb dL_law_33 (by decide) (by decide) rfl (by decide) (lc_cell C0 h6 hb70 hW hl kk1)
        | 2, _ => exact lv_tableIn (tgt := 298) hx hb dL_law_33 (by decide) (by decide) rfl (by decide) (lc_tread C0 h6 hb70 hW hl kk1)
        | 3, _ => exact lv_tableIn (tgt := 331) hx hb dL_law_33 (by decide) (by decide) rfl (by decide) (lc_sow C0 h6 hb70 hW hl kk1)
        | 4, _ => exact lv_tableIn (tgt := 374) hx hb dL_law_33 (by decide) (by decide) rfl (by decide) (lc_of C0 h6 hb70 hW hl kk1)
        | 5, _ => exact lv_tableIn (tgt := 407) hx hb dL_law_33 (by decide) (by decide) rfl (by decide) (lc_change C0 h6 hb70 hW hl kk1)
        | 6, _ => exact lv_tableIn (tgt := 450) hx hb dL_law_33 (by decide) (by decide) rfl (by decide) (lc_apart C0 h6 hb70 hW hl kk1)
        | 7, _ => exact lv_tableIn (tgt := 483) hx hb dL_law_33 (by decide) (by decide) rfl (by decide) (lc_go C0 h6 hb70 hW hl kk1)
        | 8, _ => exact lv_tableIn (tgt := 506) hx hb dL_law_33 (by decide) (by decide) rfl (by decide) (lc_now C0 h6 hb70 hW hl kk1)
        | 9, _ => exact lv_tableIn (tgt := 529) hx hb dL_law_33 (by decide) (by decide) rfl (by decide) (lc_where C0 h6 hb70 hW hl kk1)
        | 10, _ => exact lv_tableIn (tgt := 553) hx hb dL_law_33 (by decide) (by decide) rfl (by decide) (lc_way C0 h6 hb70 hW hl kk1)
        | 11, _ => exact lv_tableIn (tgt := 586) hx hb dL_law_33 (by decide) (by decide) rfl (by decide) (lc_joined C0 h6 hb70 hW hl kk1)
        | 12, _ => exact lv_tableIn (tgt := 610) hx hb dL_law_33 (by decide) (by decide) rfl (by decide) (lc_groups C0 h6 hb70 hW hl kk1)
        | 13, _ => exact lv_tableIn (tgt := 623) hx hb dL_law_33 (by decide) (by decide) rfl (by decide) (lc_parts C0 h6 hb70 hW hl kk1)
        | 14, _ => exact lv_tableIn (tgt := 656) hx hb dL_law_33 (by decide) (by decide) rfl (by decide) (lc_bridges C0 h6 hb70 hW hl kk1)
        | 15, _ => exact lv_tableIn (tgt := 689) hx hb dL_law_33 (by decide) (by decide) rfl (by decide) (lc_mend C0 h6 hb70 hW hl kk1)
        | 16, _ => exact lv_tableIn (tgt := 722) hx hb dL_law_33 (by decide) (by decide) rfl (by decide) (lc_ahead C0 h6 hb70 hW hl kk1)
        | 17, _ => exact lv_tableIn (tgt := 755) hx hb dL_law_33 (by decide) (by decide) rfl (by decide) (lc_head C0 h6 hb70 hW hl kk1)
        | 18, _ => exact lv_tableIn (tgt := 788) hx hb dL_law_33 (by decide) (by decide) rfl (by decide) (lc_when C0 h6 hb70 hW hl kk1)
        | 19, _ => exact lv_tableIn (tgt := 821) hx hb dL_law_33 (by decide) (by decide) rfl (by decide) (lc_bare C0 h6 hb70 hW hl kk1)
        | 20, _ => exact lv_tableIn (tgt := 834) hx hb dL_law_33 (by decide) (by decide) rfl (by decide) (lc_there C0 h6 hb70 hW hl kk1)
        | 21, _ => exact lv_tableIn (tgt := 858) hx hb dL_law_33 (by decide) (by decide) rfl (by decide) (lc_kindFor C0 h6 hb70 hW hl kk1)
        | 22, _ => exact lv_tableIn (tgt := 891) hx hb dL_law_33 (by decide) (by decide) rfl (by decide) (lc_headingFor C0 h6 hb70 hW hl kk1)
        | 23, _ => exact lv_tableIn (tgt := 924) hx hb dL_law_33 (by decide) (by decide) rfl (by decide) (lc_sowFor C0 h6 hb70 hW hl kk1)
        | 24, _ => exact lv_tableIn (tgt := 977) hx hb dL_law_33 (by decide) (by decide) rfl (by decide) (lc_without C0 h6 hb70 hW hl kk1)
        | 25, _ => exact lv_tableIn (tgt := 1000) hx hb dL_law_33 (by decide) (by decide) rfl (by decide) (lc_weed C0 h6 hb70 hW hl kk1)
        | 26, _ => exact lv_tableIn (tgt := 1013) hx hb dL_law_33 (by decide) (by decide) rfl (by decide) (lc_fits C0 h6 hb70 hW hl kk1)
        | 27, _ => exact lv_tableIn (tgt := 1056) hx hb dL_law_33 (by decide) (by decide) rfl (by decide) (lc_headings C0 h6 hb70 hW hl kk1)
        | 28, _ => exact lv_tableIn (tgt := 1099) hx hb dL_law_33 (by decide) (by decide) rfl (by decide) (lc_dogs C0 h6 hb70 hW hl kk1)
        | 29, _ => exact lv_tableIn (tgt := 1122) hx hb dL_law_33 (by decide) (by decide) rfl (by decide) (lc_odds C0 h6 hb70 hW hl kk1)
        | 30, _ => exact lv_tableIn (tgt := 1156) hx hb dL_law_33 (by decide) (by decide) rfl (by decide) (lc_seed C0 h6 hb70 hW hl kk1)
        | 31, _ => exact lv_tableIn (tgt := 1179) hx hb dL_law_33 (by decide) (by decide) rfl (by decide) (lc_feed C0 h6 hb70 hW hl kk1)
        | 32, _ => exact lv_tableIn (tgt := 1212) hx hb dL_law_33 (by decide) (by decide) rfl (by decide) (lc_wipe C0 h6 hb70 hW hl kk1)
        | 33, _ => exact lv_tableIn (tgt := 1225) hx hb dL_law_33 (by decide) (by decide) rfl (by decide) (lc_text C0 h6 hb70 hW hl kk1)
        | 34, _ => exact lv_tableIn (tgt := 1238) hx hb dL_law_33 (by decide) (by decide) rfl (by decide) (lc_hold C0 h6 hb70 hW hl kk1)
        | 35, _ => exact lv_tableIn (tgt := 1271) hx hb dL_law_33 (by decide) (by decide) rfl (by decide) (lc_as C0 h6 hb70 hW hl kk1)
        | 36, _ => exact lv_tableIn (tgt := 1304) hx hb dL_law_33 (by decide) (by decide) rfl (by decide) (lc_sheet C0 h6 hb70 hW hl kk1)
        | 37, _ => exact lv_tableIn (tgt := 1347) hx hb dL_law_33 (by decide) (by decide) rfl (by decide) (lc_write C0 h6 hb70 hW hl kk1)
        | 38, _ => exact lv_tableIn (tgt := 1390) hx hb dL_law_33 (by decide) (by decide) rfl (by decide) (lc_copy C0 h6 hb70 hW hl kk1)
        | 39, _ => exact lv_tableIn (tgt := 1453) hx hb dL_law_33 (by decide) (by decide) rfl (by decide) (lc_load C0 h6 hb70 hW hl kk1)
        | 40, _ => exact lv_tableIn (tgt := 1476) hx hb dL_law_33 (by decide) (by decide) rfl (by decide) (lc_judge C0 h6 hb70 hW hl kk1)
        | 41, _ => exact lv_tableIn (tgt := 1499) hx hb dL_law_33 (by decide) (by decide) rfl (by decide) (lc_image C0 h6 hb70 hW hl kk1)
        | 42, _ => exact lv_tableIn (tgt := 1512) hx hb dL_law_33 (by decide) (by decide) rfl (by decide) (lc_undo C0 h6 hb70 hW hl kk1)
        | 43, _ => exact lv_tableIn (tgt := 1525) hx hb dL_law_33 (by decide) (by decide) rfl (by decide) (lc_tear C0 h6 hb70 hW hl kk1)
        | 44, _ => exact lv_tableIn (tgt := 1538) hx hb dL_law_33 (by decide) (by decide) rfl (by decide) (lc_count C0 h6 hb70 hW hl kk1)
        | 45, _ => exact lv_tableIn (tgt := 1561) hx hb dL_law_33 (by decide) (by decide) rfl (by decide) (lc_status C0 h6 hb70 hW hl kk1)
        | k + 46, h46 => exact absurd h46 (by omega)
      · exact lv_tableOut (tgt := 1584) hx hb dL_law_33 (Or.inr (by rw [nI_toInt (by omega)]; omega)) (by decide) (kk b9 (by omega) H locs hW)
