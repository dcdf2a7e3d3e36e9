/-! the acts of the law -/
set_option maxHeartbeats 4000000 in
set_option maxRecDepth 100000 in
theorem lc_joined {p : Program} {l : Launch} {e : Env} {s : State} {m : MethodId} {below : List Frame} {meth : Method} {c : Code} {g : GC} {g2 : GM} {b L i b9 : Nat} {xs : Nat → Int32} (C0 : LX p s m c b L xs g g2) (hi : i + 6 ≤ L) (hb9 : b9 < 70000) {H : Heap} {locs : List Loc} (hW : LW s g g2 b9 H locs) {ls : Array Slot} (hl : lv_has ls 4 [(0, .ref b), (1, .ref (ga g 0)), (2, .ref (gm g2 0)), (3, .int (nI i))])
    (kk : ∀ (H : Heap) (locs : List Loc), LW s g g2 (b9 + 40) H locs → W p l e room_1 s m #[Value.ref b] below meth c H locs 68 1928 (lw_Z below #[Value.ref b] s) (F0 m 1584 ls [])) : W p l e room_1 s m #[Value.ref b] below meth c H locs 68 1928 (lw_Z below #[Value.ref b] s) (F0 m 586 ls []) := by
  obtain ⟨hx, hb, hml, hown, hts, hX, hbl, hL, hCB, hMB, hCA, hMA, hdj⟩ := C0
  obtain ⟨p0_paths, p0_water, p0_wall, p0_kind, p0_place, p0_facing, p0_age, p0_seeds, p0_season, p0_z, p0_spots, p1_paths, p1_water, p1_wall, p1_kind, p1_place, p1_facing, p1_age, p1_seeds, p1_season, p1_z, p1_spots, p2_paths, p2_water, p2_wall, p2_kind, p2_place, p2_facing, p2_age, p2_seeds, p2_season, p2_z, p2_spots, t_bytes, t_length, t_sort, t_start, t_end, t_value, h_numbers, h_bits, h_size, w_isKept, w_told, m_now, m_kept, m_aside, m_isKept, m_found, m_steps, m_queue, m_lives, m_treads, m_tape, m_taped, m_begins, m_ends, m_sort, m_value, m_isWrong, m_items, m_itemMany, m_seedThen, m_groundThen, m_widths, m_sizes, m_numbers, m_moved, hR, hP, hQ, hS⟩ := hW
  have hbA : ¬ (fun q : Nat => s.heap.size ≤ q) b := Nat.not_le.mpr hbl
  have v1 : vp_in (nI i + (1 : Int32)) L := vin z_1 hi hL (by decide)
  obtain ⟨x, y, h1, h2, h3, hR⟩ := st_joined 5000 (by decide) (p1_paths := p1_paths) (p1_water := p1_water) (p1_wall := p1_wall) (p1_kind := p1_kind) (p1_place := p1_place) (p1_facing := p1_facing) (p1_age := p1_age) (p1_seeds := p1_seeds) (p1_season := p1_season) (p1_z := p1_z) (p1_spots := p1_spots) (t_sort := t_sort) (t_start := t_start) (t_end := t_end) (t_value := t_value) (m_aside := m_aside) (m_steps := m_steps) (m_queue := m_queue) (m_begins := m_begins) (m_ends := m_ends) (m_sort := m_sort) (m_value := m_value) (m_isWrong := m_isWrong) (m_items := m_items) (m_itemMany := m_itemMany) (m_seedThen := m_seedThen) (m_groundThen := m_groundThen) (m_moved := m_moved) hR hb9 (xs (nI i + (1 : Int32)).toNatClampNeg)
  refine lv_aload_n hx hb dL_law_586 rfl (lv_at hl 1 rfl) ?_
  refine lv_aload_n hx hb dL_law_587 rfl (lv_at hl 0 rfl) ?_
  refine lv_iload_n hx hb dL_law_588 rfl (lv_at hl 3 rfl) ?_
  refine lv_iconst (v := (1 : Int32)) hx hb dL_law_589 (by decide) ?_
  refine lv_iadd hx hb dL_law_590 ?_
  refine va_sld hx hb hX hbl hbA hS v1 dL_law_591 ?_
  refine kr_L (st1 := [.long x.1]) (va_runV (As := [.int (xs (nI i + (1 : Int32)).toNatClampNeg)]) (rest := []) ⟨hx, hb, hml, hown, hts⟩ (ct_X6_joined l 5000 g p0_paths p0_water p0_wall p0_kind p0_place p0_facing p0_age p0_seeds p0_season p0_z p0_spots p1_paths p1_water p1_wall p1_kind p1_place p1_facing p1_age p1_seeds p1_season p1_z p1_spots p2_paths p2_water p2_wall p2_kind p2_place p2_facing p2_age p2_seeds p2_season p2_z p2_spots t_bytes t_length t_sort t_start t_end t_value h_numbers h_bits h_size w_isKept w_told (xs (nI i + (1 : Int32)).toNatClampNeg) x h1) (cwV 1 hts gT_X6_joined rfl rfl rfl hd_X6_joined ⟨Nat.le_of_ble_eq_true rfl, Nat.le_of_ble_eq_true rfl⟩) ⟨bl_C, va_recv hCB.1 hP (ci := 4) (q0 := 0) rfl q_sp, fun U hU hW => ⟨rfl, cI_L hCB hP hS hU hW⟩⟩ rfl rfl hl.1 rfl (lv_room (Nat.le_of_ble_eq_true rfl)) dL_law_592 ⟨Nat.le_of_ble_eq_true rfl, Nat.le_of_ble_eq_true rfl⟩) hS hCA rfl (fun H1 locs1 hP1 hk1 hS1 => ?_)
  have hQ := keepM hdj hQ hk1
  clear hP hS hk1
  have hP := hP1
  have hS := hS1
  refine lv_aload_n hx hb dL_law_595 rfl (lv_at hl 2 rfl) ?_
  refine lv_aload_n hx hb dL_law_596 rfl (lv_at hl 0 rfl) ?_
  refine lv_iload_n hx hb dL_law_597 rfl (lv_at hl 3 rfl) ?_
  refine lv_iconst (v := (1 : Int32)) hx hb dL_law_598 (by decide) ?_
  refine lv_iadd hx hb dL_law_599 ?_
  refine va_sld hx hb hX hbl hbA hS v1 dL_law_600 ?_
  refine kr_L (st1 := [.long y.1, .long x.1]) (va_runV (As := [.int (xs (nI i + (1 : Int32)).toNatClampNeg)]) (rest := [.long x.1]) ⟨hx, hb, hml, hown, hts⟩ (ct_X7_joined l 5000 g2 m_now m_kept m_aside m_isKept m_found m_steps m_queue m_lives m_treads m_tape m_taped m_begins m_ends m_sort m_value m_isWrong m_items m_itemMany m_seedThen m_groundThen m_widths m_sizes m_numbers m_moved (xs (nI i + (1 : Int32)).toNatClampNeg) y h2) (cwV 1 hts gT_X7_joined rfl rfl rfl hd_X7_joined ⟨Nat.le_of_ble_eq_true rfl, Nat.le_of_ble_eq_true rfl⟩) ⟨bl_M, va_recv hMB.1 hQ (ci := 5) (q0 := 0) rfl k_md, fun U hU hW => ⟨rfl, mI_L hMB hQ hS hU hW⟩⟩ rfl rfl hl.1 rfl (lv_room (Nat.le_of_ble_eq_true rfl)) dL_law_601 ⟨Nat.le_of_ble_eq_true rfl, Nat.le_of_ble_eq_true rfl⟩) hS hMA rfl (fun H2 locs2 hQ2 hk2 hS2 => ?_)
  have hP2 := keepC hdj hP hk2
  refine W.lcmp hx hb dL_law_604 ?_
  exact lv_if_eq (tgt := 1584) hx hb dL_law_605 (by decide) (fun _ => kk _ _ ⟨_, _, _, _, _, _, _, _, _, _, _, _, _, _, _, _, _, _, _, _, _, _, _, _, _, _, _, _, _, _, _, _, _, _, _, _, _, _, _, _, _, _, _, _, _, _, _, _, _, _, _, _, _, _, _, _, _, _, _, _, _, _, _, _, _, _, _, _, hR, hP2, hQ2, hS2⟩) (fun hc => absurd ((lg_cmp_eq _ _).mpr h3) hc)
