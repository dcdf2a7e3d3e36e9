/-! CONTRACTS, by program -/
set_option maxHeartbeats 4000000 in
set_option maxRecDepth 100000 in
theorem ct_X6_way (l : Launch) (n : Nat) (g : GC) (p0_paths : Nat → Int32) (p0_water : Int64) (p0_wall : Int64) (p0_kind : Nat → Int32) (p0_place : Nat → Int32) (p0_facing : Nat → Int32) (p0_age : Nat → Int32) (p0_seeds : Int32) (p0_season : Int32) (p0_z : Int32) (p0_spots : Nat → Int32) (p1_paths : Nat → Int32) (p1_water : Int64) (p1_wall : Int64) (p1_kind : Nat → Int32) (p1_place : Nat → Int32) (p1_facing : Nat → Int32) (p1_age : Nat → Int32) (p1_seeds : Int32) (p1_season : Int32) (p1_z : Int32) (p1_spots : Nat → Int32) (p2_paths : Nat → Int32) (p2_water : Int64) (p2_wall : Int64) (p2_kind : Nat → Int32) (p2_place : Nat → Int32) (p2_facing : Nat → Int32) (p2_age : Nat → Int32) (p2_seeds : Int32) (p2_season : Int32) (p2_z : Int32) (p2_spots : Nat → Int32) (t_bytes : Nat → Int32) (t_length : Int32) (t_sort : Int32) (t_start : Int32) (t_end : Int32) (t_value : Int32) (h_numbers : Nat → Nat → Int32) (h_bits : Nat → Int32) (h_size : Nat → Int32) (w_isKept : Int32) (w_told : Nat → Int32) (a1 : Int32) (a2 : Int32) (res : Int32 × (Nat → Int32)) (hf : fX6_way n a1 a2 p0_paths w_told = some res) : Met l yX6_way wsX6_way ({ frames := 2, cells := 0, slots := 0, locals := 49 }) (va_Pc [.ref (ga g 0), .int a1, .int a2] (cI g (pk3 (p0_paths, p0_water, p0_wall, p0_kind, p0_place, p0_facing, p0_age, p0_seeds, p0_season, p0_z, p0_spots) (p1_paths, p1_water, p1_wall, p1_kind, p1_place, p1_facing, p1_age, p1_seeds, p1_season, p1_z, p1_spots) (p2_paths, p2_water, p2_wall, p2_kind, p2_place, p2_facing, p2_age, p2_seeds, p2_season, p2_z, p2_spots), w_isKept, (t_bytes, t_length, t_sort, t_start, t_end, t_value), (h_numbers, h_bits, h_size), w_told))) (qW (some (.int res.1)) True g.1 (cw g (pk3 (p0_paths, p0_water, p0_wall, p0_kind, p0_place, p0_facing, p0_age, p0_seeds, p0_season, p0_z, p0_spots) (p1_paths, p1_water, p1_wall, p1_kind, p1_place, p1_facing, p1_age, p1_seeds, p1_season, p1_z, p1_spots) (p2_paths, p2_water, p2_wall, p2_kind, p2_place, p2_facing, p2_age, p2_seeds, p2_season, p2_z, p2_spots), w_isKept, (t_bytes, t_length, t_sort, t_start, t_end, t_value), (h_numbers, h_bits, h_size), res.2)) (gA g)) 0 0 (gA g) := by
  refine Met.ofW (cc := cX6_way) (maxL := 4) (ret := (some .int)) (by decide) rfl ?_
  intro p e s m args below meth c s₁ B hml hv
  obtain ⟨rfl, hI⟩ := hv
  have hx := B.exec
  have hb := B.bytes
  have hr := B.returns
  have hts := atoms_spec (ws := wsX6_way) B.pre
  have hown : s.vm.findClass RX6 = some m.cls := findClass_of_methodNamed B.named
  have hlocks := B.notSynchronized
  have hP := hI.1
  have hB := hI.2
  have hK := hB.1
  have hNW := hB.2.1
  have hS : va_S (gA g) s.heap s.heap [] := va_S.rf
  have hw0 := hts (.fieldLink RX6 10 "SownPaths" "park" "LSownPaths$Park;") (by decide +kernel)
  have iwX6 : ∀ w ∈ wsX60, w ∈ wsX6_way := fun w h => List.mem_cons_of_mem _ (List.mem_append_left _ (List.mem_append_right _ h))
  have hl := lv_entry ([.ref (ga g 0), .int a1, .int a2]) (n := 4) (Nat.le_of_ble_eq_true rfl)
  rw [lg_entry_eq]
  generalize (lg_sl ([.ref (ga g 0), .int a1, .int a2]) ++ List.replicate (4 - (lg_sl ([.ref (ga g 0), .int a1, .int a2])).length) Slot.unset).toArray = ls at hl ⊢
  have hl : lv_has ls 4 [(0, .ref (ga g 0)), (1, .int a1), (2, .int a2)] := hl
  unfold fX6_way at hf
  refine lv_iload_n hx hb dX6_way_0 rfl (lv_at hl 1 rfl) ?_
  obtain ⟨q1, hq1, hf⟩ := bd_some hf
  refine kr_S (st1 := [.int q1]) (va_runS (As := [.int a1]) (rest := []) ⟨hx, hb, hml, hown, hts⟩ (ct_X6_isCell l n a1 q1 hq1) (va_cwS 1 hts gX6_way_X6_isCell rfl rfl rfl hn_X6_isCell ⟨Nat.le_of_ble_eq_true rfl, Nat.le_of_ble_eq_true rfl⟩) ⟨bl_N, pr_N rfl hNW⟩ rfl rfl hl.1 rfl (lv_room (Nat.le_of_ble_eq_true rfl)) dX6_way_1 ⟨Nat.le_refl _, Nat.le_refl _⟩) rfl (fun hn2 => ?_)
  refine lv_if_eq (tgt := 14) hx hb dX6_way_4 (by decide) (fun hc3 => ?_) (fun hc3 => ?_)
  · have hf := (if_pos hc3).symm.trans hf
    refine lv_aload_n hx hb dX6_way_14 rfl (lv_at hl 0 rfl) ?_
    refine lv_iconst (v := (0 : Int32)) hx hb dX6_way_15 (by decide) ?_
    obtain ⟨q4, hq4, hf⟩ := bd_some hf
    refine kr_W (st1 := [.int q4.1]) (va_runV (As := [.int (0 : Int32)]) (rest := []) ⟨hx, hb, hml, hown, hts⟩ (ct_X6_finding l n g p0_paths p0_water p0_wall p0_kind p0_place p0_facing p0_age p0_seeds p0_season p0_z p0_spots p1_paths p1_water p1_wall p1_kind p1_place p1_facing p1_age p1_seeds p1_season p1_z p1_spots p2_paths p2_water p2_wall p2_kind p2_place p2_facing p2_age p2_seeds p2_season p2_z p2_spots t_bytes t_length t_sort t_start t_end t_value h_numbers h_bits h_size w_isKept w_told (0 : Int32) q4 hq4) (cwV 1 hts gX6_way_X6_finding rfl rfl rfl hd_X6_finding ⟨Nat.le_of_ble_eq_true rfl, Nat.le_of_ble_eq_true rfl⟩) ⟨bl_C, va_recv hK hP (ci := 4) (q0 := 0) rfl q_sp, pr_C rfl hB hP hS⟩ rfl rfl hl.1 rfl (lv_room (Nat.le_of_ble_eq_true rfl)) dX6_way_16 ⟨Nat.le_refl _, Nat.le_refl _⟩) hS rfl (fun hn5 H locs hP hS => ?_)
    have hP : va_P g.1 vwCl (cw g (pk3 (p0_paths, p0_water, p0_wall, p0_kind, p0_place, p0_facing, p0_age, p0_seeds, p0_season, p0_z, p0_spots) (p1_paths, p1_water, p1_wall, p1_kind, p1_place, p1_facing, p1_age, p1_seeds, p1_season, p1_z, p1_spots) (p2_paths, p2_water, p2_wall, p2_kind, p2_place, p2_facing, p2_age, p2_seeds, p2_season, p2_z, p2_spots), w_isKept, (t_bytes, t_length, t_sort, t_start, t_end, t_value), (h_numbers, h_bits, h_size), q4.2)) H := hP
    have hres : (q4.1, q4.2) = res := (Option.some.inj hf)
    have hP := w_eq (congrArg (fun z => cw g (pk3 (p0_paths, p0_water, p0_wall, p0_kind, p0_place, p0_facing, p0_age, p0_seeds, p0_season, p0_z, p0_spots) (p1_paths, p1_water, p1_wall, p1_kind, p1_place, p1_facing, p1_age, p1_seeds, p1_season, p1_z, p1_spots) (p2_paths, p2_water, p2_wall, p2_kind, p2_place, p2_facing, p2_age, p2_seeds, p2_season, p2_z, p2_spots), w_isKept, (t_bytes, t_length, t_sort, t_start, t_end, t_value), (h_numbers, h_bits, h_size), z.2)) hres) hP
    exact W.iret (v := q4.1) hx hb hr (fun t ht hW => ⟨congrArg (fun z => Outcome.returned (some (Value.int z.1))) hres, trivial, by rw [ht]; exact hP, hS.F ht⟩) hS.2.2 dX6_way_19
  · have hf := (if_neg hc3).symm.trans hf
    refine lv_iload_n hx hb dX6_way_7 rfl (lv_at hl 2 rfl) ?_
    obtain ⟨q6, hq6, hf⟩ := bd_some hf
    refine kr_S (st1 := [.int q6]) (va_runS (As := [.int a2]) (rest := []) ⟨hx, hb, hml, hown, hts⟩ (ct_X6_isCell l n a2 q6 hq6) (va_cwS 1 hts gX6_way_X6_isCell rfl rfl rfl hn_X6_isCell ⟨Nat.le_of_ble_eq_true rfl, Nat.le_of_ble_eq_true rfl⟩) ⟨bl_N, pr_N rfl hNW⟩ rfl rfl hl.1 rfl (lv_room (Nat.le_of_ble_eq_true rfl)) dX6_way_8 ⟨Nat.le_refl _, Nat.le_refl _⟩) rfl (fun hn7 => ?_)
    refine lv_if_ne (tgt := 20) hx hb dX6_way_11 (by decide) (fun hc8 => ?_) (fun hc8 => ?_)
    · have hf := (if_neg hc8).symm.trans hf
      refine lv_iload_n hx hb dX6_way_20 rfl (lv_at hl 1 rfl) ?_
      refine lv_iload_n hx hb dX6_way_21 rfl (lv_at hl 2 rfl) ?_
      refine lv_aload_n hx hb dX6_way_22 rfl (lv_at hl 0 rfl) ?_
      refine va_get (D := g.1) (ci := 4) (v := .ref (ga g (1 + 0))) (C := RX6) (T := TX6) (N := 7) hx hb hts iwX6 hown hK hP 0 q_sp rfl 0 (by decide) hw0 (fun _ h9 => h9) rfl dX6_way_23 ?_
      obtain ⟨q9, hq9, hf⟩ := bd_some hf
      refine kr_S (st1 := [.long q9, .int a2, .int a1]) (va_runV (As := []) (rest := [.int a2, .int a1]) ⟨hx, hb, hml, hown, hts⟩ (ct_X2_pathSet l n g (pk3 (p0_paths, p0_water, p0_wall, p0_kind, p0_place, p0_facing, p0_age, p0_seeds, p0_season, p0_z, p0_spots) (p1_paths, p1_water, p1_wall, p1_kind, p1_place, p1_facing, p1_age, p1_seeds, p1_season, p1_z, p1_spots) (p2_paths, p2_water, p2_wall, p2_kind, p2_place, p2_facing, p2_age, p2_seeds, p2_season, p2_z, p2_spots), w_isKept, (t_bytes, t_length, t_sort, t_start, t_end, t_value), (h_numbers, h_bits, h_size), w_told) 0 (by decide) p0_paths p0_water p0_wall p0_kind p0_place p0_facing p0_age p0_seeds p0_season p0_z p0_spots rfl q9 hq9) (cwV 0 hts gX6_way_X2_pathSet rfl rfl rfl hd_X2_pathSet ⟨Nat.le_of_ble_eq_true rfl, Nat.le_of_ble_eq_true rfl⟩) ⟨bl_C, va_recv hK hP (ci := 0) (q0 := (1 + 0)) rfl (e_pk (by decide) rfl (Q := (p0_paths, p0_water, p0_wall, p0_kind, p0_place, p0_facing, p0_age, p0_seeds, p0_season, p0_z, p0_spots))), pr_C rfl hB hP hS⟩ rfl rfl hl.1 rfl (lv_room (Nat.le_of_ble_eq_true rfl)) dX6_way_26 ⟨Nat.le_refl _, Nat.le_refl _⟩) rfl (fun hn10 => ?_)
      obtain ⟨q11, hq11, hf⟩ := bd_some hf
      refine kr_S (st1 := [.int q11]) (va_runS (As := [.int a1, .int a2, .long q9]) (rest := []) ⟨hx, hb, hml, hown, hts⟩ (ct_X0_steps l n a1 a2 q9 q11 hq11) (va_cwS 3 hts gX6_way_X0_steps rfl rfl rfl hn_X0_steps ⟨Nat.le_of_ble_eq_true rfl, Nat.le_of_ble_eq_true rfl⟩) ⟨bl_N, pr_N rfl hNW⟩ rfl rfl hl.1 rfl (lv_room (Nat.le_of_ble_eq_true rfl)) dX6_way_29 ⟨Nat.le_refl _, Nat.le_refl _⟩) rfl (fun hn12 => ?_)
      refine lv_istore_n (lv' := [(3, .int q11), (0, .ref (ga g 0)), (1, .int a1), (2, .int a2)]) hx hb dX6_way_32 rfl hl (by decide) rfl (fun ls hl => ?_)
      refine lv_iload_n hx hb dX6_way_33 rfl (lv_at hl 0 rfl) ?_
      refine lv_if_ge (tgt := 45) hx hb dX6_way_34 (by decide) (fun hc13 => ?_) (fun hc13 => ?_)
      · have hf := (if_pos hc13).symm.trans hf
        refine lv_iload_n hx hb dX6_way_45 rfl (lv_at hl 0 rfl) ?_
        have hres : (q11, w_told) = res := (Option.some.inj hf)
        have hP := w_eq (congrArg (fun z => cw g (pk3 (p0_paths, p0_water, p0_wall, p0_kind, p0_place, p0_facing, p0_age, p0_seeds, p0_season, p0_z, p0_spots) (p1_paths, p1_water, p1_wall, p1_kind, p1_place, p1_facing, p1_age, p1_seeds, p1_season, p1_z, p1_spots) (p2_paths, p2_water, p2_wall, p2_kind, p2_place, p2_facing, p2_age, p2_seeds, p2_season, p2_z, p2_spots), w_isKept, (t_bytes, t_length, t_sort, t_start, t_end, t_value), (h_numbers, h_bits, h_size), z.2)) hres) hP
        exact W.iret (v := q11) hx hb hr (fun t ht hW => ⟨congrArg (fun z => Outcome.returned (some (Value.int z.1))) hres, trivial, by rw [ht]; exact hP, hS.F ht⟩) hS.2.2 dX6_way_46
      · have hf := (if_neg hc13).symm.trans hf
        refine lv_aload_n hx hb dX6_way_37 rfl (lv_at hl 1 rfl) ?_
        refine lv_iconst (v := (3 : Int32)) hx hb dX6_way_38 (by decide) ?_
        obtain ⟨q14, hq14, hf⟩ := bd_some hf
        refine kr_W (st1 := [.int q14.1]) (va_runV (As := [.int (3 : Int32)]) (rest := []) ⟨hx, hb, hml, hown, hts⟩ (ct_X6_finding l n g p0_paths p0_water p0_wall p0_kind p0_place p0_facing p0_age p0_seeds p0_season p0_z p0_spots p1_paths p1_water p1_wall p1_kind p1_place p1_facing p1_age p1_seeds p1_season p1_z p1_spots p2_paths p2_water p2_wall p2_kind p2_place p2_facing p2_age p2_seeds p2_season p2_z p2_spots t_bytes t_length t_sort t_start t_end t_value h_numbers h_bits h_size w_isKept w_told (3 : Int32) q14 hq14) (cwV 1 hts gX6_way_X6_finding rfl rfl rfl hd_X6_finding ⟨Nat.le_of_ble_eq_true rfl, Nat.le_of_ble_eq_true rfl⟩) ⟨bl_C, va_recv hK hP (ci := 4) (q0 := 0) rfl q_sp, pr_C rfl hB hP hS⟩ rfl rfl hl.1 rfl (lv_room (Nat.le_of_ble_eq_true rfl)) dX6_way_39 ⟨Nat.le_refl _, Nat.le_refl _⟩) hS rfl (fun hn15 H locs hP hS => ?_)
        have hP : va_P g.1 vwCl (cw g (pk3 (p0_paths, p0_water, p0_wall, p0_kind, p0_place, p0_facing, p0_age, p0_seeds, p0_season, p0_z, p0_spots) (p1_paths, p1_water, p1_wall, p1_kind, p1_place, p1_facing, p1_age, p1_seeds, p1_season, p1_z, p1_spots) (p2_paths, p2_water, p2_wall, p2_kind, p2_place, p2_facing, p2_age, p2_seeds, p2_season, p2_z, p2_spots), w_isKept, (t_bytes, t_length, t_sort, t_start, t_end, t_value), (h_numbers, h_bits, h_size), q14.2)) H := hP
        refine lv_goto (tgt := 46) hx hb dX6_way_42 (by decide) ?_
        have hres : (q14.1, q14.2) = res := (Option.some.inj hf)
        have hP := w_eq (congrArg (fun z => cw g (pk3 (p0_paths, p0_water, p0_wall, p0_kind, p0_place, p0_facing, p0_age, p0_seeds, p0_season, p0_z, p0_spots) (p1_paths, p1_water, p1_wall, p1_kind, p1_place, p1_facing, p1_age, p1_seeds, p1_season, p1_z, p1_spots) (p2_paths, p2_water, p2_wall, p2_kind, p2_place, p2_facing, p2_age, p2_seeds, p2_season, p2_z, p2_spots), w_isKept, (t_bytes, t_length, t_sort, t_start, t_end, t_value), (h_numbers, h_bits, h_size), z.2)) hres) hP
        exact W.iret (v := q14.1) hx hb hr (fun t ht hW => ⟨congrArg (fun z => Outcome.returned (some (Value.int z.1))) hres, trivial, by rw [ht]; exact hP, hS.F ht⟩) hS.2.2 dX6_way_46
    · have hf := (if_pos hc8).symm.trans hf
      refine lv_aload_n hx hb dX6_way_14 rfl (lv_at hl 0 rfl) ?_
      refine lv_iconst (v := (0 : Int32)) hx hb dX6_way_15 (by decide) ?_
      obtain ⟨q16, hq16, hf⟩ := bd_some hf
      refine kr_W (st1 := [.int q16.1]) (va_runV (As := [.int (0 : Int32)]) (rest := []) ⟨hx, hb, hml, hown, hts⟩ (ct_X6_finding l n g p0_paths p0_water p0_wall p0_kind p0_place p0_facing p0_age p0_seeds p0_season p0_z p0_spots p1_paths p1_water p1_wall p1_kind p1_place p1_facing p1_age p1_seeds p1_season p1_z p1_spots p2_paths p2_water p2_wall p2_kind p2_place p2_facing p2_age p2_seeds p2_season p2_z p2_spots t_bytes t_length t_sort t_start t_end t_value h_numbers h_bits h_size w_isKept w_told (0 : Int32) q16 hq16) (cwV 1 hts gX6_way_X6_finding rfl rfl rfl hd_X6_finding ⟨Nat.le_of_ble_eq_true rfl, Nat.le_of_ble_eq_true rfl⟩) ⟨bl_C, va_recv hK hP (ci := 4) (q0 := 0) rfl q_sp, pr_C rfl hB hP hS⟩ rfl rfl hl.1 rfl (lv_room (Nat.le_of_ble_eq_true rfl)) dX6_way_16 ⟨Nat.le_refl _, Nat.le_refl _⟩) hS rfl (fun hn17 H locs hP hS => ?_)
      have hP : va_P g.1 vwCl (cw g (pk3 (p0_paths, p0_water, p0_wall, p0_kind, p0_place, p0_facing, p0_age, p0_seeds, p0_season, p0_z, p0_spots) (p1_paths, p1_water, p1_wall, p1_kind, p1_place, p1_facing, p1_age, p1_seeds, p1_season, p1_z, p1_spots) (p2_paths, p2_water, p2_wall, p2_kind, p2_place, p2_facing, p2_age, p2_seeds, p2_season, p2_z, p2_spots), w_isKept, (t_bytes, t_length, t_sort, t_start, t_end, t_value), (h_numbers, h_bits, h_size), q16.2)) H := hP
      have hres : (q16.1, q16.2) = res := (Option.some.inj hf)
      have hP := w_eq (congrArg (fun z => cw g (pk3 (p0_paths, p0_water, p0_wall, p0_kind, p0_place, p0_facing, p0_age, p0_seeds, p0_season, p0_z, p0_spots) (p1_paths, p1_water, p1_wall, p1_kind, p1_place, p1_facing, p1_age, p1_seeds, p1_season, p1_z, p1_spots) (p2_paths, p2_water, p2_wall, p2_kind, p2_place, p2_facing, p2_age, p2_seeds, p2_season, p2_z, p2_spots), w_isKept, (t_bytes, t_length, t_sort, t_start, t_end, t_value), (h_numbers, h_bits, h_size), z.2)) hres) hP
      exact W.iret (v := q16.1) hx hb hr (fun t ht hW => ⟨congrArg (fun z => Outcome.returned (some (Value.int z.1))) hres, trivial, by rw [ht]; exact hP, hS.F ht⟩) hS.2.2 dX6_way_19
set_option maxHeartbeats 4000000 in
set_option maxRecDepth 100000 in
theorem ct_X0_spread (l : Launch) (n : Nat) (a0 : Int64) (a2 : Int64) (res : Int64) (hf : fX0_spread n a0 a2 = some res) : Met l yX0_spread wsX0_spread ({ frames := 1, cells := 0, slots := 0, locals := 23 }) (va_Pc [.long a0, .long a2] NW) (qS (some (.long res)) True) 0 0 (fun _ => False) := by
  refine Met.ofW (cc := cX0_spread) (maxL := 9) (ret := (some .long)) (by decide) rfl ?_
  intro p e s m args below meth c s₁ B hml hv
  obtain ⟨rfl, hI⟩ := hv
  have hx := B.exec
  have hb := B.bytes
  have hr := B.returns
  have hts := atoms_spec (ws := wsX0_spread) B.pre
  have hown : s.vm.findClass RX0 = some m.cls := findClass_of_methodNamed B.named
  have hlocks := B.notSynchronized
  have hNW : NW s := hI
  have hl := lv_entry ([.long a0, .long a2]) (n := 9) (Nat.le_of_ble_eq_true rfl)
  rw [lg_entry_eq]
  generalize (lg_sl ([.long a0, .long a2]) ++ List.replicate (9 - (lg_sl ([.long a0, .long a2])).length) Slot.unset).toArray = ls at hl ⊢
  have hl : lv_has ls 9 [(0, .long a0), (2, .long a2)] := hl
  unfold fX0_spread at hf
  refine lv_lload_n hx hb dX0_spread_0 rfl (lv_at hl 0 rfl) ?_
  refine lv_lstore (lv' := [(4, .long a0), (0, .long a0), (2, .long a2)]) hx hb dX0_spread_1 hl (by decide) rfl (fun ls hl => ?_)
  refine lv_iconst (v := (0 : Int32)) hx hb dX0_spread_3 (by decide) ?_
  refine lv_istore (lv' := [(6, .int (0 : Int32)), (4, .long a0), (0, .long a0), (2, .long a2)]) hx hb dX0_spread_4 hl (by decide) rfl (fun ls hl => ?_)
  refine lp_run hf (fun s1 => ∀ (ls : Array Slot), lv_has ls 9 [(2, .long a2), (4, .long s1.1), (6, .int s1.2)] → W p l e (headSpec wsX0_spread ({ frames := 1, cells := 0, slots := 0, locals := 23 })).room s m ([.long a0, .long a2] : List Value).toArray below meth c s.heap [] 0 0 (MQ below (qS (some (.long res)) True) ([.long a0, .long a2] : List Value).toArray s 0 0 (fun _ => False)) (F0 m 6 ls [])) (fun v => Sum.elim (fun v2 => ∀ (ls : Array Slot), lv_has ls 9 [(4, .long v2.1)] → W p l e (headSpec wsX0_spread ({ frames := 1, cells := 0, slots := 0, locals := 23 })).room s m ([.long a0, .long a2] : List Value).toArray below meth c s.heap [] 0 0 (MQ below (qS (some (.long res)) True) ([.long a0, .long a2] : List Value).toArray s 0 0 (fun _ => False)) (F0 m 46 ls [])) (fun x => x = res) v) ?_ ?_ _ (lv_sub hl [3, 1, 0] rfl)
  · intro v2 hf
    rcases v2 with v2 | v2
    · have hf := el_l hf
      intro ls hl
      refine lv_lload hx hb dX0_spread_46 (lv_at hl 0 rfl) ?_
      have hres : v2.1 = res := (Option.some.inj hf)
      exact W.lret (v := v2.1) hx hb hr (fun t ht hW => ⟨congrArg (fun z => Outcome.returned (some (Value.long z))) hres, trivial, ht⟩) t_nil dX0_spread_48
    · exact Option.some.inj hf
  · intro s1 r1 hf hback1 hexit1 ls hl
    refine lv_iload hx hb dX0_spread_6 (lv_at hl 2 rfl) ?_
    refine lv_bipush (v := (36 : Int32)) hx hb dX0_spread_8 (by decide) ?_
    refine lv_icmp_ge (tgt := 46) hx hb dX0_spread_10 (by decide) (fun hc3 => ?_) (fun hc3 => ?_)
    · have hf := (if_pos hc3).symm.trans hf
      exact hexit1 (.inl (s1.1, s1.2)) (Option.some.inj hf).symm ls (lv_sub hl [1] rfl)
    · have hf := (if_neg hc3).symm.trans hf
      refine lv_lload hx hb dX0_spread_13 (lv_at hl 1 rfl) ?_
      refine lv_lload hx hb dX0_spread_15 (lv_at hl 1 rfl) ?_
      obtain ⟨q4, hq4, hf⟩ := bd_some hf
      refine kr_S (st1 := [.long q4, .long s1.1]) (va_runS (As := [.long s1.1]) (rest := [.long s1.1]) ⟨hx, hb, hml, hown, hts⟩ (ct_X0_neighbours l n s1.1 q4 hq4) (va_cwS 1 hts gX0_spread_X0_neighbours rfl rfl rfl hn_X0_neighbours ⟨Nat.le_of_ble_eq_true rfl, Nat.le_of_ble_eq_true rfl⟩) ⟨bl_N, pr_N rfl hNW⟩ rfl rfl hl.1 rfl (lv_room (Nat.le_of_ble_eq_true rfl)) dX0_spread_17 ⟨Nat.le_refl _, Nat.le_refl _⟩) rfl (fun hn5 => ?_)
      refine lv_lload_n hx hb dX0_spread_20 rfl (lv_at hl 0 rfl) ?_
      refine lv_land hx hb dX0_spread_21 ?_
      refine lv_lor hx hb dX0_spread_22 ?_
      refine lv_lstore (lv' := [(7, .long (s1.1 ||| (q4 &&& a2))), (2, .long a2), (4, .long s1.1), (6, .int s1.2)]) hx hb dX0_spread_23 hl (by decide) rfl (fun ls hl => ?_)
      refine lv_lload hx hb dX0_spread_25 (lv_at hl 0 rfl) ?_
      refine lv_lload hx hb dX0_spread_27 (lv_at hl 2 rfl) ?_
      refine W.lcmp hx hb dX0_spread_29 ?_
      refine lv_if_ne (tgt := 36) hx hb dX0_spread_30 (by decide) (fun hc6 => ?_) (fun hc6 => ?_)
      · have hc6 : ¬ ((s1.1 ||| (q4 &&& a2)) = s1.1) := fun h => hc6 ((lg_cmp_eq (s1.1 ||| (q4 &&& a2)) s1.1).mpr h)
        have hf := (if_neg hc6).symm.trans hf
        refine lv_lload hx hb dX0_spread_36 (lv_at hl 0 rfl) ?_
        refine lv_lstore (lv' := [(4, .long (s1.1 ||| (q4 &&& a2))), (7, .long (s1.1 ||| (q4 &&& a2))), (2, .long a2), (6, .int s1.2)]) hx hb dX0_spread_38 hl (by decide) rfl (fun ls hl => ?_)
        refine lv_iinc (v := (s1.2 + (1 : Int32))) (lv' := [(6, .int (s1.2 + (1 : Int32))), (4, .long (s1.1 ||| (q4 &&& a2))), (7, .long (s1.1 ||| (q4 &&& a2))), (2, .long a2)]) hx hb dX0_spread_40 hl (k := 3) rfl (congrArg (fun y => s1.2 + y) (by decide : Int32.ofInt (1) = (1 : Int32))) (by decide) rfl (fun ls hl => ?_)
        refine lv_goto (tgt := 6) hx hb dX0_spread_43 (by decide) ?_
        exact hback1 _ (Option.some.inj hf).symm ls (lv_sub hl [3, 1, 0] rfl)
      · have hc6 := (lg_cmp_eq (s1.1 ||| (q4 &&& a2)) s1.1).mp hc6
        have hf := (if_pos hc6).symm.trans hf
        refine lv_lload hx hb dX0_spread_33 (lv_at hl 2 rfl) ?_
        have hres : s1.1 = res := (hexit1 _ ((Option.some.inj hf)).symm)
        exact W.lret (v := s1.1) hx hb hr (fun t ht hW => ⟨congrArg (fun z => Outcome.returned (some (Value.long z))) hres, trivial, ht⟩) t_nil dX0_spread_35
set_option maxHeartbeats 4000000 in
set_option maxRecDepth 100000 in
theorem ct_X0_reach (l : Launch) (n : Nat) (a0 : Int32) (a1 : Int64) (res : Int64) (hf : fX0_reach n a0 a1 = some res) : Met l yX0_reach wsX0_reach ({ frames := 2, cells := 0, slots := 0, locals := 51 }) (va_Pc [.int a0, .long a1] NW) (qS (some (.long res)) True) 0 0 (fun _ => False) := by
  refine Met.ofW (cc := cX0_reach) (maxL := 3) (ret := (some .long)) (by decide) rfl ?_
  intro p e s m args below meth c s₁ B hml hv
  obtain ⟨rfl, hI⟩ := hv
  have hx := B.exec
  have hb := B.bytes
  have hr := B.returns
  have hts := atoms_spec (ws := wsX0_reach) B.pre
  have hown : s.vm.findClass RX0 = some m.cls := findClass_of_methodNamed B.named
  have hlocks := B.notSynchronized
  have hNW : NW s := hI
  have hw0 := hts (.initialized RX6) (by decide +kernel)
  have hw1 := hts (.static yX6_bit) (by decide +kernel)
  have hl := lv_entry ([.int a0, .long a1]) (n := 3) (Nat.le_of_ble_eq_true rfl)
  rw [lg_entry_eq]
  generalize (lg_sl ([.int a0, .long a1]) ++ List.replicate (3 - (lg_sl ([.int a0, .long a1])).length) Slot.unset).toArray = ls at hl ⊢
  have hl : lv_has ls 3 [(0, .int a0), (1, .long a1)] := hl
  unfold fX0_reach at hf
  refine lv_iload_n hx hb dX0_reach_0 rfl (lv_at hl 0 rfl) ?_
  obtain ⟨q1, hq1, hf⟩ := bd_some hf
  refine kr_S (st1 := [.long q1]) (va_runSN (As := [.int a0]) (rest := []) ⟨hx, hb, hml, hown, hts⟩ (ct_X6_bit l n a0 q1 hq1) (⟨va_cnB 1 hts gX0_reach_X6_bit_n17 rfl rfl rfl (ml_X0_17 hNW) hw0 hn_X6_bit ⟨Nat.le_of_ble_eq_true rfl, Nat.le_of_ble_eq_true rfl⟩, hw1, trivial⟩) ⟨bl_N, pr_N rfl hNW⟩ rfl rfl hl.1 rfl (lv_room (Nat.le_of_ble_eq_true rfl)) dX0_reach_1 ⟨Nat.le_refl _, Nat.le_refl _⟩) rfl (fun hn2 => ?_)
  refine lv_lload_n hx hb dX0_reach_4 rfl (lv_at hl 1 rfl) ?_
  refine lv_land hx hb dX0_reach_5 ?_
  refine lv_lload_n hx hb dX0_reach_6 rfl (lv_at hl 1 rfl) ?_
  obtain ⟨q3, hq3, hf⟩ := bd_some hf
  refine kr_S (st1 := [.long q3]) (va_runS (As := [.long (q1 &&& a1), .long a1]) (rest := []) ⟨hx, hb, hml, hown, hts⟩ (ct_X0_spread l n (q1 &&& a1) a1 q3 hq3) (va_cwS 2 hts gX0_reach_X0_spread rfl rfl rfl hn_X0_spread ⟨Nat.le_of_ble_eq_true rfl, Nat.le_of_ble_eq_true rfl⟩) ⟨bl_N, pr_N rfl hNW⟩ rfl rfl hl.1 rfl (lv_room (Nat.le_of_ble_eq_true rfl)) dX0_reach_7 ⟨Nat.le_refl _, Nat.le_refl _⟩) rfl (fun hn4 => ?_)
  have hres : q3 = res := (Option.some.inj hf)
  exact W.lret (v := q3) hx hb hr (fun t ht hW => ⟨congrArg (fun z => Outcome.returned (some (Value.long z))) hres, trivial, ht⟩) t_nil dX0_reach_10
set_option maxHeartbeats 4000000 in
set_option maxRecDepth 100000 in
theorem ct_X6_joined (l : Launch) (n : Nat) (g : GC) (p0_paths : Nat → Int32) (p0_water : Int64) (p0_wall : Int64) (p0_kind : Nat → Int32) (p0_place : Nat → Int32) (p0_facing : Nat → Int32) (p0_age : Nat → Int32) (p0_seeds : Int32) (p0_season : Int32) (p0_z : Int32) (p0_spots : Nat → Int32) (p1_paths : Nat → Int32) (p1_water : Int64) (p1_wall : Int64) (p1_kind : Nat → Int32) (p1_place : Nat → Int32) (p1_facing : Nat → Int32) (p1_age : Nat → Int32) (p1_seeds : Int32) (p1_season : Int32) (p1_z : Int32) (p1_spots : Nat → Int32) (p2_paths : Nat → Int32) (p2_water : Int64) (p2_wall : Int64) (p2_kind : Nat → Int32) (p2_place : Nat → Int32) (p2_facing : Nat → Int32) (p2_age : Nat → Int32) (p2_seeds : Int32) (p2_season : Int32) (p2_z : Int32) (p2_spots : Nat → Int32) (t_bytes : Nat → Int32) (t_length : Int32) (t_sort : Int32) (t_start : Int32) (t_end : Int32) (t_value : Int32) (h_numbers : Nat → Nat → Int32) (h_bits : Nat → Int32) (h_size : Nat → Int32) (w_isKept : Int32) (w_told : Nat → Int32) (a1 : Int32) (res : Int64 × (Nat → Int32)) (hf : fX6_joined n a1 p0_paths w_told = some res) : Met l yX6_joined wsX6_joined ({ frames := 3, cells := 0, slots := 0, locals := 73 }) (va_Pc [.ref (ga g 0), .int a1] (cI g (pk3 (p0_paths, p0_water, p0_wall, p0_kind, p0_place, p0_facing, p0_age, p0_seeds, p0_season, p0_z, p0_spots) (p1_paths, p1_water, p1_wall, p1_kind, p1_place, p1_facing, p1_age, p1_seeds, p1_season, p1_z, p1_spots) (p2_paths, p2_water, p2_wall, p2_kind, p2_place, p2_facing, p2_age, p2_seeds, p2_season, p2_z, p2_spots), w_isKept, (t_bytes, t_length, t_sort, t_start, t_end, t_value), (h_numbers, h_bits, h_size), w_told))) (qW (some (.long res.1)) True g.1 (cw g (pk3 (p0_paths, p0_water, p0_wall, p0_kind, p0_place, p0_facing, p0_age, p0_seeds, p0_season, p0_z, p0_spots) (p1_paths, p1_water, p1_wall, p1_kind, p1_place, p1_facing, p1_age, p1_seeds, p1_season, p1_z, p1_spots) (p2_paths, p2_water, p2_wall, p2_kind, p2_place, p2_facing, p2_age, p2_seeds, p2_season, p2_z, p2_spots), w_isKept, (t_bytes, t_length, t_sort, t_start, t_end, t_value), (h_numbers, h_bits, h_size), res.2)) (gA g)) 0 0 (gA g) := by
  refine Met.ofW (cc := cX6_joined) (maxL := 2) (ret := (some .long)) (by decide) rfl ?_
  intro p e s m args below meth c s₁ B hml hv
  obtain ⟨rfl, hI⟩ := hv
  have hx := B.exec
  have hb := B.bytes
  have hr := B.returns
  have hts := atoms_spec (ws := wsX6_joined) B.pre
  have hown : s.vm.findClass RX6 = some m.cls := findClass_of_methodNamed B.named
  have hlocks := B.notSynchronized
  have hP := hI.1
  have hB := hI.2
  have hK := hB.1
  have hNW := hB.2.1
  have hS : va_S (gA g) s.heap s.heap [] := va_S.rf
  have hw0 := hts (.fieldLink RX6 10 "SownPaths" "park" "LSownPaths$Park;") (by decide +kernel)
  have iwX6 : ∀ w ∈ wsX60, w ∈ wsX6_joined := fun w h => List.mem_cons_of_mem _ (List.mem_append_left _ (List.mem_append_right _ h))
  have hl := lv_entry ([.ref (ga g 0), .int a1]) (n := 2) (Nat.le_of_ble_eq_true rfl)
  rw [lg_entry_eq]
  generalize (lg_sl ([.ref (ga g 0), .int a1]) ++ List.replicate (2 - (lg_sl ([.ref (ga g 0), .int a1])).length) Slot.unset).toArray = ls at hl ⊢
  have hl : lv_has ls 2 [(0, .ref (ga g 0)), (1, .int a1)] := hl
  unfold fX6_joined at hf
  refine lv_iload_n hx hb dX6_joined_0 rfl (lv_at hl 1 rfl) ?_
  obtain ⟨q1, hq1, hf⟩ := bd_some hf
  refine kr_S (st1 := [.int q1]) (va_runS (As := [.int a1]) (rest := []) ⟨hx, hb, hml, hown, hts⟩ (ct_X6_isCell l n a1 q1 hq1) (va_cwS 1 hts gX6_joined_X6_isCell rfl rfl rfl hn_X6_isCell ⟨Nat.le_of_ble_eq_true rfl, Nat.le_of_ble_eq_true rfl⟩) ⟨bl_N, pr_N rfl hNW⟩ rfl rfl hl.1 rfl (lv_room (Nat.le_of_ble_eq_true rfl)) dX6_joined_1 ⟨Nat.le_refl _, Nat.le_refl _⟩) rfl (fun hn2 => ?_)
  refine lv_if_ne (tgt := 14) hx hb dX6_joined_4 (by decide) (fun hc3 => ?_) (fun hc3 => ?_)
  · have hf := (if_neg hc3).symm.trans hf
    refine lv_iload_n hx hb dX6_joined_14 rfl (lv_at hl 1 rfl) ?_
    refine lv_aload_n hx hb dX6_joined_15 rfl (lv_at hl 0 rfl) ?_
    refine va_get (D := g.1) (ci := 4) (v := .ref (ga g (1 + 0))) (C := RX6) (T := TX6) (N := 7) hx hb hts iwX6 hown hK hP 0 q_sp rfl 0 (by decide) hw0 (fun _ h9 => h9) rfl dX6_joined_16 ?_
    obtain ⟨q4, hq4, hf⟩ := bd_some hf
    refine kr_S (st1 := [.long q4, .int a1]) (va_runV (As := []) (rest := [.int a1]) ⟨hx, hb, hml, hown, hts⟩ (ct_X2_pathSet l n g (pk3 (p0_paths, p0_water, p0_wall, p0_kind, p0_place, p0_facing, p0_age, p0_seeds, p0_season, p0_z, p0_spots) (p1_paths, p1_water, p1_wall, p1_kind, p1_place, p1_facing, p1_age, p1_seeds, p1_season, p1_z, p1_spots) (p2_paths, p2_water, p2_wall, p2_kind, p2_place, p2_facing, p2_age, p2_seeds, p2_season, p2_z, p2_spots), w_isKept, (t_bytes, t_length, t_sort, t_start, t_end, t_value), (h_numbers, h_bits, h_size), w_told) 0 (by decide) p0_paths p0_water p0_wall p0_kind p0_place p0_facing p0_age p0_seeds p0_season p0_z p0_spots rfl q4 hq4) (cwV 0 hts gX6_joined_X2_pathSet rfl rfl rfl hd_X2_pathSet ⟨Nat.le_of_ble_eq_true rfl, Nat.le_of_ble_eq_true rfl⟩) ⟨bl_C, va_recv hK hP (ci := 0) (q0 := (1 + 0)) rfl (e_pk (by decide) rfl (Q := (p0_paths, p0_water, p0_wall, p0_kind, p0_place, p0_facing, p0_age, p0_seeds, p0_season, p0_z, p0_spots))), pr_C rfl hB hP hS⟩ rfl rfl hl.1 rfl (lv_room (Nat.le_of_ble_eq_true rfl)) dX6_joined_19 ⟨Nat.le_refl _, Nat.le_refl _⟩) rfl (fun hn5 => ?_)
    obtain ⟨q6, hq6, hf⟩ := bd_some hf
    refine kr_S (st1 := [.long q6]) (va_runS (As := [.int a1, .long q4]) (rest := []) ⟨hx, hb, hml, hown, hts⟩ (ct_X0_reach l n a1 q4 q6 hq6) (va_cwS 2 hts gX6_joined_X0_reach rfl rfl rfl hn_X0_reach ⟨Nat.le_of_ble_eq_true rfl, Nat.le_of_ble_eq_true rfl⟩) ⟨bl_N, pr_N rfl hNW⟩ rfl rfl hl.1 rfl (lv_room (Nat.le_of_ble_eq_true rfl)) dX6_joined_22 ⟨Nat.le_refl _, Nat.le_refl _⟩) rfl (fun hn7 => ?_)
    have hres : (q6, w_told) = res := (Option.some.inj hf)
    have hP := w_eq (congrArg (fun z => cw g (pk3 (p0_paths, p0_water, p0_wall, p0_kind, p0_place, p0_facing, p0_age, p0_seeds, p0_season, p0_z, p0_spots) (p1_paths, p1_water, p1_wall, p1_kind, p1_place, p1_facing, p1_age, p1_seeds, p1_season, p1_z, p1_spots) (p2_paths, p2_water, p2_wall, p2_kind, p2_place, p2_facing, p2_age, p2_seeds, p2_season, p2_z, p2_spots), w_isKept, (t_bytes, t_length, t_sort, t_start, t_end, t_value), (h_numbers, h_bits, h_size), z.2)) hres) hP
    exact W.lret (v := q6) hx hb hr (fun t ht hW => ⟨congrArg (fun z => Outcome.returned (some (Value.long z.1))) hres, trivial, by rw [ht]; exact hP, hS.F ht⟩) hS.2.2 dX6_joined_25
  · have hf := (if_pos hc3).symm.trans hf
    refine lv_aload_n hx hb dX6_joined_7 rfl (lv_at hl 0 rfl) ?_
    refine lv_iconst (v := (0 : Int32)) hx hb dX6_joined_8 (by decide) ?_
    obtain ⟨q8, hq8, hf⟩ := bd_some hf
    refine kr_W (st1 := [.int q8.1]) (va_runV (As := [.int (0 : Int32)]) (rest := []) ⟨hx, hb, hml, hown, hts⟩ (ct_X6_finding l n g p0_paths p0_water p0_wall p0_kind p0_place p0_facing p0_age p0_seeds p0_season p0_z p0_spots p1_paths p1_water p1_wall p1_kind p1_place p1_facing p1_age p1_seeds p1_season p1_z p1_spots p2_paths p2_water p2_wall p2_kind p2_place p2_facing p2_age p2_seeds p2_season p2_z p2_spots t_bytes t_length t_sort t_start t_end t_value h_numbers h_bits h_size w_isKept w_told (0 : Int32) q8 hq8) (cwV 1 hts gX6_joined_X6_finding rfl rfl rfl hd_X6_finding ⟨Nat.le_of_ble_eq_true rfl, Nat.le_of_ble_eq_true rfl⟩) ⟨bl_C, va_recv hK hP (ci := 4) (q0 := 0) rfl q_sp, pr_C rfl hB hP hS⟩ rfl rfl hl.1 rfl (lv_room (Nat.le_of_ble_eq_true rfl)) dX6_joined_9 ⟨Nat.le_refl _, Nat.le_refl _⟩) hS rfl (fun hn9 H locs hP hS => ?_)
    have hP : va_P g.1 vwCl (cw g (pk3 (p0_paths, p0_water, p0_wall, p0_kind, p0_place, p0_facing, p0_age, p0_seeds, p0_season, p0_z, p0_spots) (p1_paths, p1_water, p1_wall, p1_kind, p1_place, p1_facing, p1_age, p1_seeds, p1_season, p1_z, p1_spots) (p2_paths, p2_water, p2_wall, p2_kind, p2_place, p2_facing, p2_age, p2_seeds, p2_season, p2_z, p2_spots), w_isKept, (t_bytes, t_length, t_sort, t_start, t_end, t_value), (h_numbers, h_bits, h_size), q8.2)) H := hP
    refine lv_i2l (v := q8.1.toInt64) hx hb dX6_joined_12 rfl ?_
    have hres : (q8.1.toInt64, q8.2) = res := (Option.some.inj hf)
    have hP := w_eq (congrArg (fun z => cw g (pk3 (p0_paths, p0_water, p0_wall, p0_kind, p0_place, p0_facing, p0_age, p0_seeds, p0_season, p0_z, p0_spots) (p1_paths, p1_water, p1_wall, p1_kind, p1_place, p1_facing, p1_age, p1_seeds, p1_season, p1_z, p1_spots) (p2_paths, p2_water, p2_wall, p2_kind, p2_place, p2_facing, p2_age, p2_seeds, p2_season, p2_z, p2_spots), w_isKept, (t_bytes, t_length, t_sort, t_start, t_end, t_value), (h_numbers, h_bits, h_size), z.2)) hres) hP
    exact W.lret (v := q8.1.toInt64) hx hb hr (fun t ht hW => ⟨congrArg (fun z => Outcome.returned (some (Value.long z.1))) hres, trivial, by rw [ht]; exact hP, hS.F ht⟩) hS.2.2 dX6_joined_13
set_option maxHeartbeats 4000000 in
set_option maxRecDepth 100000 in
theorem ct_X0_countGroups (l : Launch) (n : Nat) (a0 : Int64) (res : Int32) (hf : fX0_countGroups n a0 = some res) : Met l yX0_countGroups wsX0_countGroups ({ frames := 2, cells := 0, slots := 0, locals := 51 }) (va_Pc [.long a0] NW) (qS (some (.int res)) True) 0 0 (fun _ => False) := by
  refine Met.ofW (cc := cX0_countGroups) (maxL := 6) (ret := (some .int)) (by decide) rfl ?_
  intro p e s m args below meth c s₁ B hml hv
  obtain ⟨rfl, hI⟩ := hv
  have hx := B.exec
  have hb := B.bytes
  have hr := B.returns
  have hts := atoms_spec (ws := wsX0_countGroups) B.pre
  have hown : s.vm.findClass RX0 = some m.cls := findClass_of_methodNamed B.named
  have hlocks := B.notSynchronized
  have hNW : NW s := hI
  have hw0 := hts (.constantLong RX0 33 (-1)) (by decide +kernel)
  have hl := lv_entry ([.long a0]) (n := 6) (Nat.le_of_ble_eq_true rfl)
  rw [lg_entry_eq]
  generalize (lg_sl ([.long a0]) ++ List.replicate (6 - (lg_sl ([.long a0])).length) Slot.unset).toArray = ls at hl ⊢
  have hl : lv_has ls 6 [(0, .long a0)] := hl
  unfold fX0_countGroups at hf
  refine lv_lload_n hx hb dX0_countGroups_0 rfl (lv_at hl 0 rfl) ?_
  refine lv_lstore_n (lv' := [(2, .long a0), (0, .long a0)]) hx hb dX0_countGroups_1 rfl hl (by decide) rfl (fun ls hl => ?_)
  refine lv_iconst (v := (0 : Int32)) hx hb dX0_countGroups_2 (by decide) ?_
  refine lv_istore (lv' := [(4, .int (0 : Int32)), (2, .long a0), (0, .long a0)]) hx hb dX0_countGroups_3 hl (by decide) rfl (fun ls hl => ?_)
  refine lv_iconst (v := (0 : Int32)) hx hb dX0_countGroups_5 (by decide) ?_
  refine lv_istore (lv' := [(5, .int (0 : Int32)), (4, .int (0 : Int32)), (2, .long a0), (0, .long a0)]) hx hb dX0_countGroups_6 hl (by decide) rfl (fun ls hl => ?_)
  refine lp_run hf (fun s1 => ∀ (ls : Array Slot), lv_has ls 6 [(0, .long a0), (2, .long s1.1), (4, .int s1.2.1), (5, .int s1.2.2)] → W p l e (headSpec wsX0_countGroups ({ frames := 2, cells := 0, slots := 0, locals := 51 })).room s m ([.long a0] : List Value).toArray below meth c s.heap [] 0 0 (MQ below (qS (some (.int res)) True) ([.long a0] : List Value).toArray s 0 0 (fun _ => False)) (F0 m 8 ls [])) (fun v2 => ∀ (ls : Array Slot), lv_has ls 6 [(4, .int v2.2.1)] → W p l e (headSpec wsX0_countGroups ({ frames := 2, cells := 0, slots := 0, locals := 51 })).room s m ([.long a0] : List Value).toArray below meth c s.heap [] 0 0 (MQ below (qS (some (.int res)) True) ([.long a0] : List Value).toArray s 0 0 (fun _ => False)) (F0 m 45 ls [])) ?_ ?_ _ (lv_sub hl [3, 2, 1, 0] rfl)
  · intro v2 hf ls hl
    refine lv_iload hx hb dX0_countGroups_45 (lv_at hl 0 rfl) ?_
    have hres : v2.2.1 = res := (Option.some.inj hf)
    exact W.iret (v := v2.2.1) hx hb hr (fun t ht hW => ⟨congrArg (fun z => Outcome.returned (some (Value.int z))) hres, trivial, ht⟩) t_nil dX0_countGroups_47
  · intro s1 r1 hf hback1 hexit1 ls hl
    refine lv_iload hx hb dX0_countGroups_8 (lv_at hl 3 rfl) ?_
    refine lv_bipush (v := (36 : Int32)) hx hb dX0_countGroups_10 (by decide) ?_
    refine lv_icmp_ge (tgt := 45) hx hb dX0_countGroups_12 (by decide) (fun hc3 => ?_) (fun hc3 => ?_)
    · have hf := (if_pos hc3).symm.trans hf
      exact hexit1 (s1.1, s1.2.1, s1.2.2) (Option.some.inj hf).symm ls (lv_sub hl [2] rfl)
    · have hf := (if_neg hc3).symm.trans hf
      refine lv_lload_n hx hb dX0_countGroups_15 rfl (lv_at hl 1 rfl) ?_
      refine lv_lconst (v := (0 : Int64)) hx hb dX0_countGroups_16 (by decide) ?_
      refine W.lcmp hx hb dX0_countGroups_17 ?_
      refine lv_if_eq (tgt := 45) hx hb dX0_countGroups_18 (by decide) (fun hc4 => ?_) (fun hc4 => ?_)
      · have hc4 := (lg_cmp_eq s1.1 (0 : Int64)).mp hc4
        have hf := (if_pos hc4).symm.trans hf
        exact hexit1 (s1.1, s1.2.1, s1.2.2) (Option.some.inj hf).symm ls (lv_sub hl [2] rfl)
      · have hc4 : ¬ (s1.1 = (0 : Int64)) := fun h => hc4 ((lg_cmp_eq s1.1 (0 : Int64)).mpr h)
        have hf := (if_neg hc4).symm.trans hf
        refine lv_lload_n hx hb dX0_countGroups_21 rfl (lv_at hl 1 rfl) ?_
        refine lv_lload_n hx hb dX0_countGroups_22 rfl (lv_at hl 1 rfl) ?_
        refine lv_lload_n hx hb dX0_countGroups_23 rfl (lv_at hl 1 rfl) ?_
        refine lv_lneg hx hb dX0_countGroups_24 ?_
        refine lv_land hx hb dX0_countGroups_25 ?_
        refine lv_lload_n hx hb dX0_countGroups_26 rfl (lv_at hl 0 rfl) ?_
        obtain ⟨q5, hq5, hf⟩ := bd_some hf
        refine kr_S (st1 := [.long q5, .long s1.1]) (va_runS (As := [.long (s1.1 &&& (-s1.1)), .long a0]) (rest := [.long s1.1]) ⟨hx, hb, hml, hown, hts⟩ (ct_X0_spread l n (s1.1 &&& (-s1.1)) a0 q5 hq5) (va_cwS 2 hts gX0_countGroups_X0_spread rfl rfl rfl hn_X0_spread ⟨Nat.le_of_ble_eq_true rfl, Nat.le_of_ble_eq_true rfl⟩) ⟨bl_N, pr_N rfl hNW⟩ rfl rfl hl.1 rfl (lv_room (Nat.le_of_ble_eq_true rfl)) dX0_countGroups_27 ⟨Nat.le_refl _, Nat.le_refl _⟩) rfl (fun hn6 => ?_)
        refine lv_ldc2 (v := (-1 : Int64)) hx hb hown hw0 dX0_countGroups_30 ?_
        refine lv_lxor hx hb dX0_countGroups_33 ?_
        refine lv_land hx hb dX0_countGroups_34 ?_
        refine lv_lstore_n (lv' := [(2, .long (s1.1 &&& (q5 ^^^ (-1 : Int64)))), (0, .long a0), (4, .int s1.2.1), (5, .int s1.2.2)]) hx hb dX0_countGroups_35 rfl hl (by decide) rfl (fun ls hl => ?_)
        refine lv_iinc (v := (s1.2.1 + (1 : Int32))) (lv' := [(4, .int (s1.2.1 + (1 : Int32))), (2, .long (s1.1 &&& (q5 ^^^ (-1 : Int64)))), (0, .long a0), (5, .int s1.2.2)]) hx hb dX0_countGroups_36 hl (k := 2) rfl (congrArg (fun y => s1.2.1 + y) (by decide : Int32.ofInt (1) = (1 : Int32))) (by decide) rfl (fun ls hl => ?_)
        refine lv_iinc (v := (s1.2.2 + (1 : Int32))) (lv' := [(5, .int (s1.2.2 + (1 : Int32))), (4, .int (s1.2.1 + (1 : Int32))), (2, .long (s1.1 &&& (q5 ^^^ (-1 : Int64)))), (0, .long a0)]) hx hb dX0_countGroups_39 hl (k := 3) rfl (congrArg (fun y => s1.2.2 + y) (by decide : Int32.ofInt (1) = (1 : Int32))) (by decide) rfl (fun ls hl => ?_)
        refine lv_goto (tgt := 8) hx hb dX0_countGroups_42 (by decide) ?_
        exact hback1 _ (Option.some.inj hf).symm ls (lv_sub hl [3, 2, 1, 0] rfl)
set_option maxHeartbeats 4000000 in
set_option maxRecDepth 100000 in
theorem ct_X6_groups (l : Launch) (n : Nat) (g : GC) (p0_paths : Nat → Int32) (p0_water : Int64) (p0_wall : Int64) (p0_kind : Nat → Int32) (p0_place : Nat → Int32) (p0_facing : Nat → Int32) (p0_age : Nat → Int32) (p0_seeds : Int32) (p0_season : Int32) (p0_z : Int32) (p0_spots : Nat → Int32) (p1_paths : Nat → Int32) (p1_water : Int64) (p1_wall : Int64) (p1_kind : Nat → Int32) (p1_place : Nat → Int32) (p1_facing : Nat → Int32) (p1_age : Nat → Int32) (p1_seeds : Int32) (p1_season : Int32) (p1_z : Int32) (p1_spots : Nat → Int32) (p2_paths : Nat → Int32) (p2_water : Int64) (p2_wall : Int64) (p2_kind : Nat → Int32) (p2_place : Nat → Int32) (p2_facing : Nat → Int32) (p2_age : Nat → Int32) (p2_seeds : Int32) (p2_season : Int32) (p2_z : Int32) (p2_spots : Nat → Int32) (t_bytes : Nat → Int32) (t_length : Int32) (t_sort : Int32) (t_start : Int32) (t_end : Int32) (t_value : Int32) (h_numbers : Nat → Nat → Int32) (h_bits : Nat → Int32) (h_size : Nat → Int32) (w_isKept : Int32) (w_told : Nat → Int32) (res : Int32) (hf : fX6_groups n p0_paths = some res) : Met l yX6_groups wsX6_groups ({ frames := 3, cells := 0, slots := 0, locals := 76 }) (va_Pc [.ref (ga g 0)] (cI g (pk3 (p0_paths, p0_water, p0_wall, p0_kind, p0_place, p0_facing, p0_age, p0_seeds, p0_season, p0_z, p0_spots) (p1_paths, p1_water, p1_wall, p1_kind, p1_place, p1_facing, p1_age, p1_seeds, p1_season, p1_z, p1_spots) (p2_paths, p2_water, p2_wall, p2_kind, p2_place, p2_facing, p2_age, p2_seeds, p2_season, p2_z, p2_spots), w_isKept, (t_bytes, t_length, t_sort, t_start, t_end, t_value), (h_numbers, h_bits, h_size), w_told))) (qS (some (.int res)) True) 0 0 (fun _ => False) := by
  refine Met.ofW (cc := cX6_groups) (maxL := 1) (ret := (some .int)) (by decide) rfl ?_
  intro p e s m args below meth c s₁ B hml hv
  obtain ⟨rfl, hI⟩ := hv
  have hx := B.exec
  have hb := B.bytes
  have hr := B.returns
  have hts := atoms_spec (ws := wsX6_groups) B.pre
  have hown : s.vm.findClass RX6 = some m.cls := findClass_of_methodNamed B.named
  have hlocks := B.notSynchronized
  have hP := hI.1
  have hB := hI.2
  have hK := hB.1
  have hNW := hB.2.1
  have hS : va_S (gA g) s.heap s.heap [] := va_S.rf
  have hw0 := hts (.fieldLink RX6 10 "SownPaths" "park" "LSownPaths$Park;") (by decide +kernel)
  have iwX6 : ∀ w ∈ wsX60, w ∈ wsX6_groups := fun w h => List.mem_cons_of_mem _ (List.mem_append_left _ (List.mem_append_right _ h))
  have hl := lv_entry ([.ref (ga g 0)]) (n := 1) (Nat.le_of_ble_eq_true rfl)
  rw [lg_entry_eq]
  generalize (lg_sl ([.ref (ga g 0)]) ++ List.replicate (1 - (lg_sl ([.ref (ga g 0)])).length) Slot.unset).toArray = ls at hl ⊢
  have hl : lv_has ls 1 [(0, .ref (ga g 0))] := hl
  unfold fX6_groups at hf
  refine lv_aload_n hx hb dX6_groups_0 rfl (lv_at hl 0 rfl) ?_
  refine va_get (D := g.1) (ci := 4) (v := .ref (ga g (1 + 0))) (C := RX6) (T := TX6) (N := 7) hx hb hts iwX6 hown hK hP 0 q_sp rfl 0 (by decide) hw0 (fun _ h9 => h9) rfl dX6_groups_1 ?_
  obtain ⟨q1, hq1, hf⟩ := bd_some hf
  refine kr_S (st1 := [.long q1]) (va_runV (As := []) (rest := []) ⟨hx, hb, hml, hown, hts⟩ (ct_X2_pathSet l n g (pk3 (p0_paths, p0_water, p0_wall, p0_kind, p0_place, p0_facing, p0_age, p0_seeds, p0_season, p0_z, p0_spots) (p1_paths, p1_water, p1_wall, p1_kind, p1_place, p1_facing, p1_age, p1_seeds, p1_season, p1_z, p1_spots) (p2_paths, p2_water, p2_wall, p2_kind, p2_place, p2_facing, p2_age, p2_seeds, p2_season, p2_z, p2_spots), w_isKept, (t_bytes, t_length, t_sort, t_start, t_end, t_value), (h_numbers, h_bits, h_size), w_told) 0 (by decide) p0_paths p0_water p0_wall p0_kind p0_place p0_facing p0_age p0_seeds p0_season p0_z p0_spots rfl q1 hq1) (cwV 0 hts gX6_groups_X2_pathSet rfl rfl rfl hd_X2_pathSet ⟨Nat.le_of_ble_eq_true rfl, Nat.le_of_ble_eq_true rfl⟩) ⟨bl_C, va_recv hK hP (ci := 0) (q0 := (1 + 0)) rfl (e_pk (by decide) rfl (Q := (p0_paths, p0_water, p0_wall, p0_kind, p0_place, p0_facing, p0_age, p0_seeds, p0_season, p0_z, p0_spots))), pr_C rfl hB hP hS⟩ rfl rfl hl.1 rfl (lv_room (Nat.le_of_ble_eq_true rfl)) dX6_groups_4 ⟨Nat.le_refl _, Nat.le_refl _⟩) rfl (fun hn2 => ?_)
  obtain ⟨q3, hq3, hf⟩ := bd_some hf
  refine kr_S (st1 := [.int q3]) (va_runS (As := [.long q1]) (rest := []) ⟨hx, hb, hml, hown, hts⟩ (ct_X0_countGroups l n q1 q3 hq3) (va_cwS 1 hts gX6_groups_X0_countGroups rfl rfl rfl hn_X0_countGroups ⟨Nat.le_of_ble_eq_true rfl, Nat.le_of_ble_eq_true rfl⟩) ⟨bl_N, pr_N rfl hNW⟩ rfl rfl hl.1 rfl (lv_room (Nat.le_of_ble_eq_true rfl)) dX6_groups_7 ⟨Nat.le_refl _, Nat.le_refl _⟩) rfl (fun hn4 => ?_)
  have hres : q3 = res := (Option.some.inj hf)
  exact W.iret (v := q3) hx hb hr (fun t ht hW => ⟨congrArg (fun z => Outcome.returned (some (Value.int z))) hres, trivial, ht⟩) t_nil dX6_groups_10
set_option maxHeartbeats 4000000 in
set_option maxRecDepth 100000 in
theorem ct_X0_areJoined (l : Launch) (n : Nat) (a0 : Int32) (a1 : Int32) (a2 : Int64) (res : Int32) (hf : fX0_areJoined n a0 a1 a2 = some res) : Met l yX0_areJoined wsX0_areJoined ({ frames := 3, cells := 0, slots := 0, locals := 73 }) (va_Pc [.int a0, .int a1, .long a2] NW) (qS (some (.int res)) (narrow .boolean (.int res) = .int res)) 0 0 (fun _ => False) := by
  refine Met.ofW (cc := cX0_areJoined) (maxL := 4) (ret := (some .boolean)) (by decide) rfl ?_
  intro p e s m args below meth c s₁ B hml hv
  obtain ⟨rfl, hI⟩ := hv
  have hx := B.exec
  have hb := B.bytes
  have hr := B.returns
  have hts := atoms_spec (ws := wsX0_areJoined) B.pre
  have hown : s.vm.findClass RX0 = some m.cls := findClass_of_methodNamed B.named
  have hlocks := B.notSynchronized
  have hNW : NW s := hI
  have hw0 := hts (.initialized RX6) (by decide +kernel)
  have hw1 := hts (.static yX6_bit) (by decide +kernel)
  have hl := lv_entry ([.int a0, .int a1, .long a2]) (n := 4) (Nat.le_of_ble_eq_true rfl)
  rw [lg_entry_eq]
  generalize (lg_sl ([.int a0, .int a1, .long a2]) ++ List.replicate (4 - (lg_sl ([.int a0, .int a1, .long a2])).length) Slot.unset).toArray = ls at hl ⊢
  have hl : lv_has ls 4 [(0, .int a0), (1, .int a1), (2, .long a2)] := hl
  unfold fX0_areJoined at hf
  refine lv_iload_n hx hb dX0_areJoined_0 rfl (lv_at hl 0 rfl) ?_
  refine lv_lload_n hx hb dX0_areJoined_1 rfl (lv_at hl 2 rfl) ?_
  obtain ⟨q1, hq1, hf⟩ := bd_some hf
  refine kr_S (st1 := [.long q1]) (va_runS (As := [.int a0, .long a2]) (rest := []) ⟨hx, hb, hml, hown, hts⟩ (ct_X0_reach l n a0 a2 q1 hq1) (va_cwS 2 hts gX0_areJoined_X0_reach rfl rfl rfl hn_X0_reach ⟨Nat.le_of_ble_eq_true rfl, Nat.le_of_ble_eq_true rfl⟩) ⟨bl_N, pr_N rfl hNW⟩ rfl rfl hl.1 rfl (lv_room (Nat.le_of_ble_eq_true rfl)) dX0_areJoined_2 ⟨Nat.le_refl _, Nat.le_refl _⟩) rfl (fun hn2 => ?_)
  refine lv_iload_n hx hb dX0_areJoined_5 rfl (lv_at hl 1 rfl) ?_
  obtain ⟨q3, hq3, hf⟩ := bd_some hf
  refine kr_S (st1 := [.long q3, .long q1]) (va_runSN (As := [.int a1]) (rest := [.long q1]) ⟨hx, hb, hml, hown, hts⟩ (ct_X6_bit l n a1 q3 hq3) (⟨va_cnB 1 hts gX0_areJoined_X6_bit_n17 rfl rfl rfl (ml_X0_17 hNW) hw0 hn_X6_bit ⟨Nat.le_of_ble_eq_true rfl, Nat.le_of_ble_eq_true rfl⟩, hw1, trivial⟩) ⟨bl_N, pr_N rfl hNW⟩ rfl rfl hl.1 rfl (lv_room (Nat.le_of_ble_eq_true rfl)) dX0_areJoined_6 ⟨Nat.le_refl _, Nat.le_refl _⟩) rfl (fun hn4 => ?_)
  refine lv_land hx hb dX0_areJoined_9 ?_
  refine lv_lconst (v := (0 : Int64)) hx hb dX0_areJoined_10 (by decide) ?_
  refine W.lcmp hx hb dX0_areJoined_11 ?_
  refine lv_if_eq (tgt := 19) hx hb dX0_areJoined_12 (by decide) (fun hc5 => ?_) (fun hc5 => ?_)
  · have hc5 := (lg_cmp_eq (q1 &&& q3) (0 : Int64)).mp hc5
    have hf := (if_pos hc5).symm.trans hf
    refine lv_iconst (v := (0 : Int32)) hx hb dX0_areJoined_19 (by decide) ?_
    have hres : (0 : Int32) = res := (Option.some.inj hf)
    have hnr : narrow .boolean (.int (0 : Int32)) = .int (0 : Int32) := rfl
    exact W.zret (v := (0 : Int32)) hx hb hr hnr (fun t ht hW => ⟨congrArg (fun z => Outcome.returned (some (Value.int z))) hres, Eq.mp (congrArg (fun z => narrow .boolean (.int z) = .int z) hres) hnr, ht⟩) t_nil dX0_areJoined_20
  · have hc5 : ¬ ((q1 &&& q3) = (0 : Int64)) := fun h => hc5 ((lg_cmp_eq (q1 &&& q3) (0 : Int64)).mpr h)
    have hf := (if_neg hc5).symm.trans hf
    refine lv_iconst (v := (1 : Int32)) hx hb dX0_areJoined_15 (by decide) ?_
    refine lv_goto (tgt := 20) hx hb dX0_areJoined_16 (by decide) ?_
    have hres : (1 : Int32) = res := (Option.some.inj hf)
    have hnr : narrow .boolean (.int (1 : Int32)) = .int (1 : Int32) := rfl
    exact W.zret (v := (1 : Int32)) hx hb hr hnr (fun t ht hW => ⟨congrArg (fun z => Outcome.returned (some (Value.int z))) hres, Eq.mp (congrArg (fun z => narrow .boolean (.int z) = .int z) hres) hnr, ht⟩) t_nil dX0_areJoined_20
set_option maxHeartbeats 4000000 in
set_option maxRecDepth 100000 in
theorem ct_X0_cuts (l : Launch) (n : Nat) (a0 : Int32) (a1 : Int32) (a2 : Int64) (res : Int64) (hf : fX0_cuts n a0 a1 a2 = some res) : Met l yX0_cuts wsX0_cuts ({ frames := 4, cells := 0, slots := 0, locals := 96 }) (va_Pc [.int a0, .int a1, .long a2] NW) (qS (some (.long res)) True) 0 0 (fun _ => False) := by
  refine Met.ofW (cc := cX0_cuts) (maxL := 9) (ret := (some .long)) (by decide) rfl ?_
  intro p e s m args below meth c s₁ B hml hv
  obtain ⟨rfl, hI⟩ := hv
  have hx := B.exec
  have hb := B.bytes
  have hr := B.returns
  have hts := atoms_spec (ws := wsX0_cuts) B.pre
  have hown : s.vm.findClass RX0 = some m.cls := findClass_of_methodNamed B.named
  have hlocks := B.notSynchronized
  have hNW : NW s := hI
  have hw0 := hts (.initialized RX6) (by decide +kernel)
  have hw1 := hts (.static yX6_bit) (by decide +kernel)
  have hw2 := hts (.constantLong RX0 33 (-1)) (by decide +kernel)
  have hl := lv_entry ([.int a0, .int a1, .long a2]) (n := 9) (Nat.le_of_ble_eq_true rfl)
  rw [lg_entry_eq]
  generalize (lg_sl ([.int a0, .int a1, .long a2]) ++ List.replicate (9 - (lg_sl ([.int a0, .int a1, .long a2])).length) Slot.unset).toArray = ls at hl ⊢
  have hl : lv_has ls 9 [(0, .int a0), (1, .int a1), (2, .long a2)] := hl
  unfold fX0_cuts at hf
  refine lv_lconst (v := (0 : Int64)) hx hb dX0_cuts_0 (by decide) ?_
  refine lv_lstore (lv' := [(4, .long (0 : Int64)), (0, .int a0), (1, .int a1), (2, .long a2)]) hx hb dX0_cuts_1 hl (by decide) rfl (fun ls hl => ?_)
  refine lv_iload_n hx hb dX0_cuts_3 rfl (lv_at hl 1 rfl) ?_
  refine lv_iload_n hx hb dX0_cuts_4 rfl (lv_at hl 2 rfl) ?_
  refine lv_lload_n hx hb dX0_cuts_5 rfl (lv_at hl 3 rfl) ?_
  obtain ⟨q1, hq1, hf⟩ := bd_some hf
  refine kr_S (st1 := [.int q1]) (va_runS (As := [.int a0, .int a1, .long a2]) (rest := []) ⟨hx, hb, hml, hown, hts⟩ (ct_X0_areJoined l n a0 a1 a2 q1 hq1) (va_cwS 3 hts gX0_cuts_X0_areJoined rfl rfl rfl hn_X0_areJoined ⟨Nat.le_of_ble_eq_true rfl, Nat.le_of_ble_eq_true rfl⟩) ⟨bl_N, pr_N rfl hNW⟩ rfl rfl hl.1 rfl (lv_room (Nat.le_of_ble_eq_true rfl)) dX0_cuts_6 ⟨Nat.le_refl _, Nat.le_refl _⟩) rfl (fun hn2 => ?_)
  refine lv_if_ne (tgt := 15) hx hb dX0_cuts_9 (by decide) (fun hc3 => ?_) (fun hc3 => ?_)
  · have hf := (if_neg hc3).symm.trans hf
    refine lv_lload_n hx hb dX0_cuts_15 rfl (lv_at hl 3 rfl) ?_
    refine lv_iload_n hx hb dX0_cuts_16 rfl (lv_at hl 1 rfl) ?_
    obtain ⟨q4, hq4, hf⟩ := bd_some hf
    refine kr_S (st1 := [.long q4, .long a2]) (va_runSN (As := [.int a0]) (rest := [.long a2]) ⟨hx, hb, hml, hown, hts⟩ (ct_X6_bit l n a0 q4 hq4) (⟨va_cnB 1 hts gX0_cuts_X6_bit_n17 rfl rfl rfl (ml_X0_17 hNW) hw0 hn_X6_bit ⟨Nat.le_of_ble_eq_true rfl, Nat.le_of_ble_eq_true rfl⟩, hw1, trivial⟩) ⟨bl_N, pr_N rfl hNW⟩ rfl rfl hl.1 rfl (lv_room (Nat.le_of_ble_eq_true rfl)) dX0_cuts_17 ⟨Nat.le_refl _, Nat.le_refl _⟩) rfl (fun hn5 => ?_)
    refine lv_iload_n hx hb dX0_cuts_20 rfl (lv_at hl 2 rfl) ?_
    obtain ⟨q6, hq6, hf⟩ := bd_some hf
    refine kr_S (st1 := [.long q6, .long q4, .long a2]) (va_runSN (As := [.int a1]) (rest := [.long q4, .long a2]) ⟨hx, hb, hml, hown, hts⟩ (ct_X6_bit l n a1 q6 hq6) (⟨va_cnB 1 hts gX0_cuts_X6_bit_n17 rfl rfl rfl (ml_X0_17 hNW) hw0 hn_X6_bit ⟨Nat.le_of_ble_eq_true rfl, Nat.le_of_ble_eq_true rfl⟩, hw1, trivial⟩) ⟨bl_N, pr_N rfl hNW⟩ rfl rfl hl.1 rfl (lv_room (Nat.le_of_ble_eq_true rfl)) dX0_cuts_21 ⟨Nat.le_refl _, Nat.le_refl _⟩) rfl (fun hn7 => ?_)
    refine lv_lor hx hb dX0_cuts_24 ?_
    refine lv_ldc2 (v := (-1 : Int64)) hx hb hown hw2 dX0_cuts_25 ?_
    refine lv_lxor hx hb dX0_cuts_28 ?_
    refine lv_land hx hb dX0_cuts_29 ?_
    refine lv_lstore (lv' := [(6, .long (a2 &&& ((q4 ||| q6) ^^^ (-1 : Int64)))), (4, .long (0 : Int64)), (0, .int a0), (1, .int a1), (2, .long a2)]) hx hb dX0_cuts_30 hl (by decide) rfl (fun ls hl => ?_)
    refine lv_iconst (v := (0 : Int32)) hx hb dX0_cuts_32 (by decide) ?_
    refine lv_istore (lv' := [(8, .int (0 : Int32)), (6, .long (a2 &&& ((q4 ||| q6) ^^^ (-1 : Int64)))), (4, .long (0 : Int64)), (0, .int a0), (1, .int a1), (2, .long a2)]) hx hb dX0_cuts_33 hl (by decide) rfl (fun ls hl => ?_)
    refine lp_run hf (fun s8 => ∀ (ls : Array Slot), lv_has ls 9 [(0, .int a0), (1, .int a1), (2, .long a2), (4, .long s8.1), (6, .long (a2 &&& ((q4 ||| q6) ^^^ (-1 : Int64)))), (8, .int s8.2)] → W p l e (headSpec wsX0_cuts ({ frames := 4, cells := 0, slots := 0, locals := 96 })).room s m ([.int a0, .int a1, .long a2] : List Value).toArray below meth c s.heap [] 0 0 (MQ below (qS (some (.long res)) True) ([.int a0, .int a1, .long a2] : List Value).toArray s 0 0 (fun _ => False)) (F0 m 35 ls [])) (fun v9 => ∀ (ls : Array Slot), lv_has ls 9 [(4, .long v9.1)] → W p l e (headSpec wsX0_cuts ({ frames := 4, cells := 0, slots := 0, locals := 96 })).room s m ([.int a0, .int a1, .long a2] : List Value).toArray below meth c s.heap [] 0 0 (MQ below (qS (some (.long res)) True) ([.int a0, .int a1, .long a2] : List Value).toArray s 0 0 (fun _ => False)) (F0 m 90 ls [])) ?_ ?_ _ (lv_sub hl [3, 4, 5, 2, 1, 0] rfl)
    · intro v9 hf ls hl
      refine lv_lload hx hb dX0_cuts_90 (lv_at hl 0 rfl) ?_
      have hres : v9.1 = res := (Option.some.inj hf)
      exact W.lret (v := v9.1) hx hb hr (fun t ht hW => ⟨congrArg (fun z => Outcome.returned (some (Value.long z))) hres, trivial, ht⟩) t_nil dX0_cuts_92
    · intro s8 r1 hf hback1 hexit1 ls hl
      refine lv_iload hx hb dX0_cuts_35 (lv_at hl 5 rfl) ?_
      refine lv_bipush (v := (36 : Int32)) hx hb dX0_cuts_37 (by decide) ?_
      refine lv_icmp_ge (tgt := 90) hx hb dX0_cuts_39 (by decide) (fun hc10 => ?_) (fun hc10 => ?_)
      · have hf := (if_pos hc10).symm.trans hf
        exact hexit1 (s8.1, s8.2) (Option.some.inj hf).symm ls (lv_sub hl [3] rfl)
      · have hf := (if_neg hc10).symm.trans hf
        refine lv_lload hx hb dX0_cuts_42 (lv_at hl 4 rfl) ?_
        refine lv_iload hx hb dX0_cuts_44 (lv_at hl 5 rfl) ?_
        obtain ⟨q11, hq11, hf⟩ := bd_some hf
        refine kr_S (st1 := [.long q11, .long (a2 &&& ((q4 ||| q6) ^^^ (-1 : Int64)))]) (va_runSN (As := [.int s8.2]) (rest := [.long (a2 &&& ((q4 ||| q6) ^^^ (-1 : Int64)))]) ⟨hx, hb, hml, hown, hts⟩ (ct_X6_bit l n s8.2 q11 hq11) (⟨va_cnB 1 hts gX0_cuts_X6_bit_n17 rfl rfl rfl (ml_X0_17 hNW) hw0 hn_X6_bit ⟨Nat.le_of_ble_eq_true rfl, Nat.le_of_ble_eq_true rfl⟩, hw1, trivial⟩) ⟨bl_N, pr_N rfl hNW⟩ rfl rfl hl.1 rfl (lv_room (Nat.le_of_ble_eq_true rfl)) dX0_cuts_46 ⟨Nat.le_refl _, Nat.le_refl _⟩) rfl (fun hn12 => ?_)
        refine lv_land hx hb dX0_cuts_49 ?_
        refine lv_lconst (v := (0 : Int64)) hx hb dX0_cuts_50 (by decide) ?_
        refine W.lcmp hx hb dX0_cuts_51 ?_
        refine lv_if_eq (tgt := 84) hx hb dX0_cuts_52 (by decide) (fun hc13 => ?_) (fun hc13 => ?_)
        · have hc13 := (lg_cmp_eq ((a2 &&& ((q4 ||| q6) ^^^ (-1 : Int64))) &&& q11) (0 : Int64)).mp hc13
          have hf := (if_pos hc13).symm.trans hf
          refine lv_iinc (v := (s8.2 + (1 : Int32))) (lv' := [(8, .int (s8.2 + (1 : Int32))), (0, .int a0), (1, .int a1), (2, .long a2), (4, .long s8.1), (6, .long (a2 &&& ((q4 ||| q6) ^^^ (-1 : Int64))))]) hx hb dX0_cuts_84 hl (k := 5) rfl (congrArg (fun y => s8.2 + y) (by decide : Int32.ofInt (1) = (1 : Int32))) (by decide) rfl (fun ls hl => ?_)
          refine lv_goto (tgt := 35) hx hb dX0_cuts_87 (by decide) ?_
          exact hback1 _ (Option.some.inj hf).symm ls (lv_sub hl [1, 2, 3, 4, 5, 0] rfl)
        · have hc13 : ¬ (((a2 &&& ((q4 ||| q6) ^^^ (-1 : Int64))) &&& q11) = (0 : Int64)) := fun h => hc13 ((lg_cmp_eq ((a2 &&& ((q4 ||| q6) ^^^ (-1 : Int64))) &&& q11) (0 : Int64)).mpr h)
          have hf := (if_neg hc13).symm.trans hf
          refine lv_iload_n hx hb dX0_cuts_55 rfl (lv_at hl 0 rfl) ?_
          refine lv_iload_n hx hb dX0_cuts_56 rfl (lv_at hl 1 rfl) ?_
          refine lv_lload_n hx hb dX0_cuts_57 rfl (lv_at hl 2 rfl) ?_
          refine lv_iload hx hb dX0_cuts_58 (lv_at hl 5 rfl) ?_
          obtain ⟨q14, hq14, hf⟩ := bd_some hf
          refine kr_S (st1 := [.long q14, .long a2, .int a1, .int a0]) (va_runSN (As := [.int s8.2]) (rest := [.long a2, .int a1, .int a0]) ⟨hx, hb, hml, hown, hts⟩ (ct_X6_bit l n s8.2 q14 hq14) (⟨va_cnB 1 hts gX0_cuts_X6_bit_n17 rfl rfl rfl (ml_X0_17 hNW) hw0 hn_X6_bit ⟨Nat.le_of_ble_eq_true rfl, Nat.le_of_ble_eq_true rfl⟩, hw1, trivial⟩) ⟨bl_N, pr_N rfl hNW⟩ rfl rfl hl.1 rfl (lv_room (Nat.le_of_ble_eq_true rfl)) dX0_cuts_60 ⟨Nat.le_refl _, Nat.le_refl _⟩) rfl (fun hn15 => ?_)
          refine lv_ldc2 (v := (-1 : Int64)) hx hb hown hw2 dX0_cuts_63 ?_
          refine lv_lxor hx hb dX0_cuts_66 ?_
          refine lv_land hx hb dX0_cuts_67 ?_
          obtain ⟨q16, hq16, hf⟩ := bd_some hf
          refine kr_S (st1 := [.int q16]) (va_runS (As := [.int a0, .int a1, .long (a2 &&& (q14 ^^^ (-1 : Int64)))]) (rest := []) ⟨hx, hb, hml, hown, hts⟩ (ct_X0_areJoined l n a0 a1 (a2 &&& (q14 ^^^ (-1 : Int64))) q16 hq16) (va_cwS 3 hts gX0_cuts_X0_areJoined rfl rfl rfl hn_X0_areJoined ⟨Nat.le_of_ble_eq_true rfl, Nat.le_of_ble_eq_true rfl⟩) ⟨bl_N, pr_N rfl hNW⟩ rfl rfl hl.1 rfl (lv_room (Nat.le_of_ble_eq_true rfl)) dX0_cuts_68 ⟨Nat.le_refl _, Nat.le_refl _⟩) rfl (fun hn17 => ?_)
          refine lv_if_ne (tgt := 84) hx hb dX0_cuts_71 (by decide) (fun hc18 => ?_) (fun hc18 => ?_)
          · have hf := (if_neg hc18).symm.trans hf
            refine lv_iinc (v := (s8.2 + (1 : Int32))) (lv' := [(8, .int (s8.2 + (1 : Int32))), (0, .int a0), (1, .int a1), (2, .long a2), (4, .long s8.1), (6, .long (a2 &&& ((q4 ||| q6) ^^^ (-1 : Int64))))]) hx hb dX0_cuts_84 hl (k := 5) rfl (congrArg (fun y => s8.2 + y) (by decide : Int32.ofInt (1) = (1 : Int32))) (by decide) rfl (fun ls hl => ?_)
            refine lv_goto (tgt := 35) hx hb dX0_cuts_87 (by decide) ?_
            exact hback1 _ (Option.some.inj hf).symm ls (lv_sub hl [1, 2, 3, 4, 5, 0] rfl)
          · have hf := (if_pos hc18).symm.trans hf
            refine lv_lload hx hb dX0_cuts_74 (lv_at hl 3 rfl) ?_
            refine lv_iload hx hb dX0_cuts_76 (lv_at hl 5 rfl) ?_
            obtain ⟨q19, hq19, hf⟩ := bd_some hf
            refine kr_S (st1 := [.long q19, .long s8.1]) (va_runSN (As := [.int s8.2]) (rest := [.long s8.1]) ⟨hx, hb, hml, hown, hts⟩ (ct_X6_bit l n s8.2 q19 hq19) (⟨va_cnB 1 hts gX0_cuts_X6_bit_n17 rfl rfl rfl (ml_X0_17 hNW) hw0 hn_X6_bit ⟨Nat.le_of_ble_eq_true rfl, Nat.le_of_ble_eq_true rfl⟩, hw1, trivial⟩) ⟨bl_N, pr_N rfl hNW⟩ rfl rfl hl.1 rfl (lv_room (Nat.le_of_ble_eq_true rfl)) dX0_cuts_78 ⟨Nat.le_refl _, Nat.le_refl _⟩) rfl (fun hn20 => ?_)
            refine lv_lor hx hb dX0_cuts_81 ?_
            refine lv_lstore (lv' := [(4, .long (s8.1 ||| q19)), (0, .int a0), (1, .int a1), (2, .long a2), (6, .long (a2 &&& ((q4 ||| q6) ^^^ (-1 : Int64)))), (8, .int s8.2)]) hx hb dX0_cuts_82 hl (by decide) rfl (fun ls hl => ?_)
            refine lv_iinc (v := (s8.2 + (1 : Int32))) (lv' := [(8, .int (s8.2 + (1 : Int32))), (4, .long (s8.1 ||| q19)), (0, .int a0), (1, .int a1), (2, .long a2), (6, .long (a2 &&& ((q4 ||| q6) ^^^ (-1 : Int64))))]) hx hb dX0_cuts_84 hl (k := 5) rfl (congrArg (fun y => s8.2 + y) (by decide : Int32.ofInt (1) = (1 : Int32))) (by decide) rfl (fun ls hl => ?_)
            refine lv_goto (tgt := 35) hx hb dX0_cuts_87 (by decide) ?_
            exact hback1 _ (Option.some.inj hf).symm ls (lv_sub hl [2, 3, 4, 1, 5, 0] rfl)
  · have hf := (if_pos hc3).symm.trans hf
    refine lv_lload hx hb dX0_cuts_12 (lv_at hl 0 rfl) ?_
    have hres : (0 : Int64) = res := (Option.some.inj hf)
    exact W.lret (v := (0 : Int64)) hx hb hr (fun t ht hW => ⟨congrArg (fun z => Outcome.returned (some (Value.long z))) hres, trivial, ht⟩) t_nil dX0_cuts_14
set_option maxHeartbeats 4000000 in
set_option maxRecDepth 100000 in
theorem ct_X0_least (l : Launch) (n : Nat) (a0 : Int64) (res : Int32) (hf : fX0_least n a0 = some res) : Met l yX0_least wsX0_least ({ frames := 1, cells := 0, slots := 0, locals := 20 }) (va_Pc [.long a0] NW) (qS (some (.int res)) True) 0 0 (fun _ => False) := by
  refine Met.ofW (cc := cX0_least) (maxL := 3) (ret := (some .int)) (by decide) rfl ?_
  intro p e s m args below meth c s₁ B hml hv
  obtain ⟨rfl, hI⟩ := hv
  have hx := B.exec
  have hb := B.bytes
  have hr := B.returns
  have hts := atoms_spec (ws := wsX0_least) B.pre
  have hown : s.vm.findClass RX0 = some m.cls := findClass_of_methodNamed B.named
  have hlocks := B.notSynchronized
  have hNW : NW s := hI
  have hw0 := hts (.initialized RX6) (by decide +kernel)
  have hw1 := hts (.static yX6_bit) (by decide +kernel)
  have hl := lv_entry ([.long a0]) (n := 3) (Nat.le_of_ble_eq_true rfl)
  rw [lg_entry_eq]
  generalize (lg_sl ([.long a0]) ++ List.replicate (3 - (lg_sl ([.long a0])).length) Slot.unset).toArray = ls at hl ⊢
  have hl : lv_has ls 3 [(0, .long a0)] := hl
  unfold fX0_least at hf
  refine lv_iconst (v := (0 : Int32)) hx hb dX0_least_0 (by decide) ?_
  refine lv_istore_n (lv' := [(2, .int (0 : Int32)), (0, .long a0)]) hx hb dX0_least_1 rfl hl (by decide) rfl (fun ls hl => ?_)
  refine lp_run hf (fun s1 => ∀ (ls : Array Slot), lv_has ls 3 [(0, .long a0), (2, .int s1)] → W p l e (headSpec wsX0_least ({ frames := 1, cells := 0, slots := 0, locals := 20 })).room s m ([.long a0] : List Value).toArray below meth c s.heap [] 0 0 (MQ below (qS (some (.int res)) True) ([.long a0] : List Value).toArray s 0 0 (fun _ => False)) (F0 m 2 ls [])) (fun v => Sum.elim (fun v2 => ∀ (ls : Array Slot), lv_has ls 3 [] → W p l e (headSpec wsX0_least ({ frames := 1, cells := 0, slots := 0, locals := 20 })).room s m ([.long a0] : List Value).toArray below meth c s.heap [] 0 0 (MQ below (qS (some (.int res)) True) ([.long a0] : List Value).toArray s 0 0 (fun _ => False)) (F0 m 27 ls [])) (fun x => x = res) v) ?_ ?_ _ (lv_sub hl [1, 0] rfl)
  · intro v2 hf
    rcases v2 with v2 | v2
    · have hf := el_l hf
      intro ls hl
      refine lv_iconst (v := (-1 : Int32)) hx hb dX0_least_27 (by decide) ?_
      have hres : (-1 : Int32) = res := (Option.some.inj hf)
      exact W.iret (v := (-1 : Int32)) hx hb hr (fun t ht hW => ⟨congrArg (fun z => Outcome.returned (some (Value.int z))) hres, trivial, ht⟩) t_nil dX0_least_28
    · exact Option.some.inj hf
  · intro s1 r1 hf hback1 hexit1 ls hl
    refine lv_iload_n hx hb dX0_least_2 rfl (lv_at hl 1 rfl) ?_
    refine lv_bipush (v := (36 : Int32)) hx hb dX0_least_3 (by decide) ?_
    refine lv_icmp_ge (tgt := 27) hx hb dX0_least_5 (by decide) (fun hc3 => ?_) (fun hc3 => ?_)
    · have hf := (if_pos hc3).symm.trans hf
      exact hexit1 (.inl s1) (Option.some.inj hf).symm ls (lv_sub hl [] rfl)
    · have hf := (if_neg hc3).symm.trans hf
      refine lv_lload_n hx hb dX0_least_8 rfl (lv_at hl 0 rfl) ?_
      refine lv_iload_n hx hb dX0_least_9 rfl (lv_at hl 1 rfl) ?_
      obtain ⟨q4, hq4, hf⟩ := bd_some hf
      refine kr_S (st1 := [.long q4, .long a0]) (va_runSN (As := [.int s1]) (rest := [.long a0]) ⟨hx, hb, hml, hown, hts⟩ (ct_X6_bit l n s1 q4 hq4) (⟨va_cnB 1 hts gX0_least_X6_bit_n17 rfl rfl rfl (ml_X0_17 hNW) hw0 hn_X6_bit ⟨Nat.le_of_ble_eq_true rfl, Nat.le_of_ble_eq_true rfl⟩, hw1, trivial⟩) ⟨bl_N, pr_N rfl hNW⟩ rfl rfl hl.1 rfl (lv_room (Nat.le_of_ble_eq_true rfl)) dX0_least_10 ⟨Nat.le_refl _, Nat.le_refl _⟩) rfl (fun hn5 => ?_)
      refine lv_land hx hb dX0_least_13 ?_
      refine lv_lconst (v := (0 : Int64)) hx hb dX0_least_14 (by decide) ?_
      refine W.lcmp hx hb dX0_least_15 ?_
      refine lv_if_eq (tgt := 21) hx hb dX0_least_16 (by decide) (fun hc6 => ?_) (fun hc6 => ?_)
      · have hc6 := (lg_cmp_eq (a0 &&& q4) (0 : Int64)).mp hc6
        have hf := (if_pos hc6).symm.trans hf
        refine lv_iinc (v := (s1 + (1 : Int32))) (lv' := [(2, .int (s1 + (1 : Int32))), (0, .long a0)]) hx hb dX0_least_21 hl (k := 1) rfl (congrArg (fun y => s1 + y) (by decide : Int32.ofInt (1) = (1 : Int32))) (by decide) rfl (fun ls hl => ?_)
        refine lv_goto (tgt := 2) hx hb dX0_least_24 (by decide) ?_
        exact hback1 _ (Option.some.inj hf).symm ls (lv_sub hl [1, 0] rfl)
      · have hc6 : ¬ ((a0 &&& q4) = (0 : Int64)) := fun h => hc6 ((lg_cmp_eq (a0 &&& q4) (0 : Int64)).mpr h)
        have hf := (if_neg hc6).symm.trans hf
        refine lv_iload_n hx hb dX0_least_19 rfl (lv_at hl 1 rfl) ?_
        have hres : s1 = res := (hexit1 _ ((Option.some.inj hf)).symm)
        exact W.iret (v := s1) hx hb hr (fun t ht hW => ⟨congrArg (fun z => Outcome.returned (some (Value.int z))) hres, trivial, ht⟩) t_nil dX0_least_20
set_option maxHeartbeats 4000000 in
set_option maxRecDepth 100000 in
theorem ct_X6_parts (l : Launch) (n : Nat) (g : GC) (p0_paths : Nat → Int32) (p0_water : Int64) (p0_wall : Int64) (p0_kind : Nat → Int32) (p0_place : Nat → Int32) (p0_facing : Nat → Int32) (p0_age : Nat → Int32) (p0_seeds : Int32) (p0_season : Int32) (p0_z : Int32) (p0_spots : Nat → Int32) (p1_paths : Nat → Int32) (p1_water : Int64) (p1_wall : Int64) (p1_kind : Nat → Int32) (p1_place : Nat → Int32) (p1_facing : Nat → Int32) (p1_age : Nat → Int32) (p1_seeds : Int32) (p1_season : Int32) (p1_z : Int32) (p1_spots : Nat → Int32) (p2_paths : Nat → Int32) (p2_water : Int64) (p2_wall : Int64) (p2_kind : Nat → Int32) (p2_place : Nat → Int32) (p2_facing : Nat → Int32) (p2_age : Nat → Int32) (p2_seeds : Int32) (p2_season : Int32) (p2_z : Int32) (p2_spots : Nat → Int32) (t_bytes : Nat → Int32) (t_length : Int32) (t_sort : Int32) (t_start : Int32) (t_end : Int32) (t_value : Int32) (h_numbers : Nat → Nat → Int32) (h_bits : Nat → Int32) (h_size : Nat → Int32) (w_isKept : Int32) (w_told : Nat → Int32) (a1 : Int32) (a2 : Int32) (res : Int32 × (Nat → Int32)) (hf : fX6_parts n a1 a2 p0_paths w_told = some res) : Met l yX6_parts wsX6_parts ({ frames := 5, cells := 0, slots := 0, locals := 124 }) (va_Pc [.ref (ga g 0), .int a1, .int a2] (cI g (pk3 (p0_paths, p0_water, p0_wall, p0_kind, p0_place, p0_facing, p0_age, p0_seeds, p0_season, p0_z, p0_spots) (p1_paths, p1_water, p1_wall, p1_kind, p1_place, p1_facing, p1_age, p1_seeds, p1_season, p1_z, p1_spots) (p2_paths, p2_water, p2_wall, p2_kind, p2_place, p2_facing, p2_age, p2_seeds, p2_season, p2_z, p2_spots), w_isKept, (t_bytes, t_length, t_sort, t_start, t_end, t_value), (h_numbers, h_bits, h_size), w_told))) (qW (some (.int res.1)) True g.1 (cw g (pk3 (p0_paths, p0_water, p0_wall, p0_kind, p0_place, p0_facing, p0_age, p0_seeds, p0_season, p0_z, p0_spots) (p1_paths, p1_water, p1_wall, p1_kind, p1_place, p1_facing, p1_age, p1_seeds, p1_season, p1_z, p1_spots) (p2_paths, p2_water, p2_wall, p2_kind, p2_place, p2_facing, p2_age, p2_seeds, p2_season, p2_z, p2_spots), w_isKept, (t_bytes, t_length, t_sort, t_start, t_end, t_value), (h_numbers, h_bits, h_size), res.2)) (gA g)) 0 0 (gA g) := by
  refine Met.ofW (cc := cX6_parts) (maxL := 4) (ret := (some .int)) (by decide) rfl ?_
  intro p e s m args below meth c s₁ B hml hv
  obtain ⟨rfl, hI⟩ := hv
  have hx := B.exec
  have hb := B.bytes
  have hr := B.returns
  have hts := atoms_spec (ws := wsX6_parts) B.pre
  have hown : s.vm.findClass RX6 = some m.cls := findClass_of_methodNamed B.named
  have hlocks := B.notSynchronized
  have hP := hI.1
  have hB := hI.2
  have hK := hB.1
  have hNW := hB.2.1
  have hS : va_S (gA g) s.heap s.heap [] := va_S.rf
  have hw0 := hts (.fieldLink RX6 10 "SownPaths" "park" "LSownPaths$Park;") (by decide +kernel)
  have iwX6 : ∀ w ∈ wsX60, w ∈ wsX6_parts := fun w h => List.mem_cons_of_mem _ (List.mem_append_left _ (List.mem_append_right _ h))
  have hl := lv_entry ([.ref (ga g 0), .int a1, .int a2]) (n := 4) (Nat.le_of_ble_eq_true rfl)
  rw [lg_entry_eq]
  generalize (lg_sl ([.ref (ga g 0), .int a1, .int a2]) ++ List.replicate (4 - (lg_sl ([.ref (ga g 0), .int a1, .int a2])).length) Slot.unset).toArray = ls at hl ⊢
  have hl : lv_has ls 4 [(0, .ref (ga g 0)), (1, .int a1), (2, .int a2)] := hl
  unfold fX6_parts at hf
  refine lv_iload_n hx hb dX6_parts_0 rfl (lv_at hl 1 rfl) ?_
  obtain ⟨q1, hq1, hf⟩ := bd_some hf
  refine kr_S (st1 := [.int q1]) (va_runS (As := [.int a1]) (rest := []) ⟨hx, hb, hml, hown, hts⟩ (ct_X6_isCell l n a1 q1 hq1) (va_cwS 1 hts gX6_parts_X6_isCell rfl rfl rfl hn_X6_isCell ⟨Nat.le_of_ble_eq_true rfl, Nat.le_of_ble_eq_true rfl⟩) ⟨bl_N, pr_N rfl hNW⟩ rfl rfl hl.1 rfl (lv_room (Nat.le_of_ble_eq_true rfl)) dX6_parts_1 ⟨Nat.le_refl _, Nat.le_refl _⟩) rfl (fun hn2 => ?_)
  refine lv_if_eq (tgt := 14) hx hb dX6_parts_4 (by decide) (fun hc3 => ?_) (fun hc3 => ?_)
  · have hf := (if_pos hc3).symm.trans hf
    refine lv_aload_n hx hb dX6_parts_14 rfl (lv_at hl 0 rfl) ?_
    refine lv_iconst (v := (0 : Int32)) hx hb dX6_parts_15 (by decide) ?_
    obtain ⟨q4, hq4, hf⟩ := bd_some hf
    refine kr_W (st1 := [.int q4.1]) (va_runV (As := [.int (0 : Int32)]) (rest := []) ⟨hx, hb, hml, hown, hts⟩ (ct_X6_finding l n g p0_paths p0_water p0_wall p0_kind p0_place p0_facing p0_age p0_seeds p0_season p0_z p0_spots p1_paths p1_water p1_wall p1_kind p1_place p1_facing p1_age p1_seeds p1_season p1_z p1_spots p2_paths p2_water p2_wall p2_kind p2_place p2_facing p2_age p2_seeds p2_season p2_z p2_spots t_bytes t_length t_sort t_start t_end t_value h_numbers h_bits h_size w_isKept w_told (0 : Int32) q4 hq4) (cwV 1 hts gX6_parts_X6_finding rfl rfl rfl hd_X6_finding ⟨Nat.le_of_ble_eq_true rfl, Nat.le_of_ble_eq_true rfl⟩) ⟨bl_C, va_recv hK hP (ci := 4) (q0 := 0) rfl q_sp, pr_C rfl hB hP hS⟩ rfl rfl hl.1 rfl (lv_room (Nat.le_of_ble_eq_true rfl)) dX6_parts_16 ⟨Nat.le_refl _, Nat.le_refl _⟩) hS rfl (fun hn5 H locs hP hS => ?_)
    have hP : va_P g.1 vwCl (cw g (pk3 (p0_paths, p0_water, p0_wall, p0_kind, p0_place, p0_facing, p0_age, p0_seeds, p0_season, p0_z, p0_spots) (p1_paths, p1_water, p1_wall, p1_kind, p1_place, p1_facing, p1_age, p1_seeds, p1_season, p1_z, p1_spots) (p2_paths, p2_water, p2_wall, p2_kind, p2_place, p2_facing, p2_age, p2_seeds, p2_season, p2_z, p2_spots), w_isKept, (t_bytes, t_length, t_sort, t_start, t_end, t_value), (h_numbers, h_bits, h_size), q4.2)) H := hP
    have hres : (q4.1, q4.2) = res := (Option.some.inj hf)
    have hP := w_eq (congrArg (fun z => cw g (pk3 (p0_paths, p0_water, p0_wall, p0_kind, p0_place, p0_facing, p0_age, p0_seeds, p0_season, p0_z, p0_spots) (p1_paths, p1_water, p1_wall, p1_kind, p1_place, p1_facing, p1_age, p1_seeds, p1_season, p1_z, p1_spots) (p2_paths, p2_water, p2_wall, p2_kind, p2_place, p2_facing, p2_age, p2_seeds, p2_season, p2_z, p2_spots), w_isKept, (t_bytes, t_length, t_sort, t_start, t_end, t_value), (h_numbers, h_bits, h_size), z.2)) hres) hP
    exact W.iret (v := q4.1) hx hb hr (fun t ht hW => ⟨congrArg (fun z => Outcome.returned (some (Value.int z.1))) hres, trivial, by rw [ht]; exact hP, hS.F ht⟩) hS.2.2 dX6_parts_19
  · have hf := (if_neg hc3).symm.trans hf
    refine lv_iload_n hx hb dX6_parts_7 rfl (lv_at hl 2 rfl) ?_
    obtain ⟨q6, hq6, hf⟩ := bd_some hf
    refine kr_S (st1 := [.int q6]) (va_runS (As := [.int a2]) (rest := []) ⟨hx, hb, hml, hown, hts⟩ (ct_X6_isCell l n a2 q6 hq6) (va_cwS 1 hts gX6_parts_X6_isCell rfl rfl rfl hn_X6_isCell ⟨Nat.le_of_ble_eq_true rfl, Nat.le_of_ble_eq_true rfl⟩) ⟨bl_N, pr_N rfl hNW⟩ rfl rfl hl.1 rfl (lv_room (Nat.le_of_ble_eq_true rfl)) dX6_parts_8 ⟨Nat.le_refl _, Nat.le_refl _⟩) rfl (fun hn7 => ?_)
    refine lv_if_ne (tgt := 20) hx hb dX6_parts_11 (by decide) (fun hc8 => ?_) (fun hc8 => ?_)
    · have hf := (if_neg hc8).symm.trans hf
      refine lv_iload_n hx hb dX6_parts_20 rfl (lv_at hl 1 rfl) ?_
      refine lv_iload_n hx hb dX6_parts_21 rfl (lv_at hl 2 rfl) ?_
      refine lv_aload_n hx hb dX6_parts_22 rfl (lv_at hl 0 rfl) ?_
      refine va_get (D := g.1) (ci := 4) (v := .ref (ga g (1 + 0))) (C := RX6) (T := TX6) (N := 7) hx hb hts iwX6 hown hK hP 0 q_sp rfl 0 (by decide) hw0 (fun _ h9 => h9) rfl dX6_parts_23 ?_
      obtain ⟨q9, hq9, hf⟩ := bd_some hf
      refine kr_S (st1 := [.long q9, .int a2, .int a1]) (va_runV (As := []) (rest := [.int a2, .int a1]) ⟨hx, hb, hml, hown, hts⟩ (ct_X2_pathSet l n g (pk3 (p0_paths, p0_water, p0_wall, p0_kind, p0_place, p0_facing, p0_age, p0_seeds, p0_season, p0_z, p0_spots) (p1_paths, p1_water, p1_wall, p1_kind, p1_place, p1_facing, p1_age, p1_seeds, p1_season, p1_z, p1_spots) (p2_paths, p2_water, p2_wall, p2_kind, p2_place, p2_facing, p2_age, p2_seeds, p2_season, p2_z, p2_spots), w_isKept, (t_bytes, t_length, t_sort, t_start, t_end, t_value), (h_numbers, h_bits, h_size), w_told) 0 (by decide) p0_paths p0_water p0_wall p0_kind p0_place p0_facing p0_age p0_seeds p0_season p0_z p0_spots rfl q9 hq9) (cwV 0 hts gX6_parts_X2_pathSet rfl rfl rfl hd_X2_pathSet ⟨Nat.le_of_ble_eq_true rfl, Nat.le_of_ble_eq_true rfl⟩) ⟨bl_C, va_recv hK hP (ci := 0) (q0 := (1 + 0)) rfl (e_pk (by decide) rfl (Q := (p0_paths, p0_water, p0_wall, p0_kind, p0_place, p0_facing, p0_age, p0_seeds, p0_season, p0_z, p0_spots))), pr_C rfl hB hP hS⟩ rfl rfl hl.1 rfl (lv_room (Nat.le_of_ble_eq_true rfl)) dX6_parts_26 ⟨Nat.le_refl _, Nat.le_refl _⟩) rfl (fun hn10 => ?_)
      obtain ⟨q11, hq11, hf⟩ := bd_some hf
      refine kr_S (st1 := [.long q11]) (va_runS (As := [.int a1, .int a2, .long q9]) (rest := []) ⟨hx, hb, hml, hown, hts⟩ (ct_X0_cuts l n a1 a2 q9 q11 hq11) (va_cwS 3 hts gX6_parts_X0_cuts rfl rfl rfl hn_X0_cuts ⟨Nat.le_of_ble_eq_true rfl, Nat.le_of_ble_eq_true rfl⟩) ⟨bl_N, pr_N rfl hNW⟩ rfl rfl hl.1 rfl (lv_room (Nat.le_of_ble_eq_true rfl)) dX6_parts_29 ⟨Nat.le_refl _, Nat.le_refl _⟩) rfl (fun hn12 => ?_)
      obtain ⟨q13, hq13, hf⟩ := bd_some hf
      refine kr_S (st1 := [.int q13]) (va_runS (As := [.long q11]) (rest := []) ⟨hx, hb, hml, hown, hts⟩ (ct_X0_least l n q11 q13 hq13) (va_cwS 1 hts gX6_parts_X0_least rfl rfl rfl hn_X0_least ⟨Nat.le_of_ble_eq_true rfl, Nat.le_of_ble_eq_true rfl⟩) ⟨bl_N, pr_N rfl hNW⟩ rfl rfl hl.1 rfl (lv_room (Nat.le_of_ble_eq_true rfl)) dX6_parts_32 ⟨Nat.le_refl _, Nat.le_refl _⟩) rfl (fun hn14 => ?_)
      refine lv_istore_n (lv' := [(3, .int q13), (0, .ref (ga g 0)), (1, .int a1), (2, .int a2)]) hx hb dX6_parts_35 rfl hl (by decide) rfl (fun ls hl => ?_)
      refine lv_iload_n hx hb dX6_parts_36 rfl (lv_at hl 0 rfl) ?_
      refine lv_if_ge (tgt := 48) hx hb dX6_parts_37 (by decide) (fun hc15 => ?_) (fun hc15 => ?_)
      · have hf := (if_pos hc15).symm.trans hf
        refine lv_iload_n hx hb dX6_parts_48 rfl (lv_at hl 0 rfl) ?_
        have hres : (q13, w_told) = res := (Option.some.inj hf)
        have hP := w_eq (congrArg (fun z => cw g (pk3 (p0_paths, p0_water, p0_wall, p0_kind, p0_place, p0_facing, p0_age, p0_seeds, p0_season, p0_z, p0_spots) (p1_paths, p1_water, p1_wall, p1_kind, p1_place, p1_facing, p1_age, p1_seeds, p1_season, p1_z, p1_spots) (p2_paths, p2_water, p2_wall, p2_kind, p2_place, p2_facing, p2_age, p2_seeds, p2_season, p2_z, p2_spots), w_isKept, (t_bytes, t_length, t_sort, t_start, t_end, t_value), (h_numbers, h_bits, h_size), z.2)) hres) hP
        exact W.iret (v := q13) hx hb hr (fun t ht hW => ⟨congrArg (fun z => Outcome.returned (some (Value.int z.1))) hres, trivial, by rw [ht]; exact hP, hS.F ht⟩) hS.2.2 dX6_parts_49
      · have hf := (if_neg hc15).symm.trans hf
        refine lv_aload_n hx hb dX6_parts_40 rfl (lv_at hl 1 rfl) ?_
        refine lv_iconst (v := (3 : Int32)) hx hb dX6_parts_41 (by decide) ?_
        obtain ⟨q16, hq16, hf⟩ := bd_some hf
        refine kr_W (st1 := [.int q16.1]) (va_runV (As := [.int (3 : Int32)]) (rest := []) ⟨hx, hb, hml, hown, hts⟩ (ct_X6_finding l n g p0_paths p0_water p0_wall p0_kind p0_place p0_facing p0_age p0_seeds p0_season p0_z p0_spots p1_paths p1_water p1_wall p1_kind p1_place p1_facing p1_age p1_seeds p1_season p1_z p1_spots p2_paths p2_water p2_wall p2_kind p2_place p2_facing p2_age p2_seeds p2_season p2_z p2_spots t_bytes t_length t_sort t_start t_end t_value h_numbers h_bits h_size w_isKept w_told (3 : Int32) q16 hq16) (cwV 1 hts gX6_parts_X6_finding rfl rfl rfl hd_X6_finding ⟨Nat.le_of_ble_eq_true rfl, Nat.le_of_ble_eq_true rfl⟩) ⟨bl_C, va_recv hK hP (ci := 4) (q0 := 0) rfl q_sp, pr_C rfl hB hP hS⟩ rfl rfl hl.1 rfl (lv_room (Nat.le_of_ble_eq_true rfl)) dX6_parts_42 ⟨Nat.le_refl _, Nat.le_refl _⟩) hS rfl (fun hn17 H locs hP hS => ?_)
        have hP : va_P g.1 vwCl (cw g (pk3 (p0_paths, p0_water, p0_wall, p0_kind, p0_place, p0_facing, p0_age, p0_seeds, p0_season, p0_z, p0_spots) (p1_paths, p1_water, p1_wall, p1_kind, p1_place, p1_facing, p1_age, p1_seeds, p1_season, p1_z, p1_spots) (p2_paths, p2_water, p2_wall, p2_kind, p2_place, p2_facing, p2_age, p2_seeds, p2_season, p2_z, p2_spots), w_isKept, (t_bytes, t_length, t_sort, t_start, t_end, t_value), (h_numbers, h_bits, h_size), q16.2)) H := hP
        refine lv_goto (tgt := 49) hx hb dX6_parts_45 (by decide) ?_
        have hres : (q16.1, q16.2) = res := (Option.some.inj hf)
        have hP := w_eq (congrArg (fun z => cw g (pk3 (p0_paths, p0_water, p0_wall, p0_kind, p0_place, p0_facing, p0_age, p0_seeds, p0_season, p0_z, p0_spots) (p1_paths, p1_water, p1_wall, p1_kind, p1_place, p1_facing, p1_age, p1_seeds, p1_season, p1_z, p1_spots) (p2_paths, p2_water, p2_wall, p2_kind, p2_place, p2_facing, p2_age, p2_seeds, p2_season, p2_z, p2_spots), w_isKept, (t_bytes, t_length, t_sort, t_start, t_end, t_value), (h_numbers, h_bits, h_size), z.2)) hres) hP
        exact W.iret (v := q16.1) hx hb hr (fun t ht hW => ⟨congrArg (fun z => Outcome.returned (some (Value.int z.1))) hres, trivial, by rw [ht]; exact hP, hS.F ht⟩) hS.2.2 dX6_parts_49
    · have hf := (if_pos hc8).symm.trans hf
      refine lv_aload_n hx hb dX6_parts_14 rfl (lv_at hl 0 rfl) ?_
      refine lv_iconst (v := (0 : Int32)) hx hb dX6_parts_15 (by decide) ?_
      obtain ⟨q18, hq18, hf⟩ := bd_some hf
      refine kr_W (st1 := [.int q18.1]) (va_runV (As := [.int (0 : Int32)]) (rest := []) ⟨hx, hb, hml, hown, hts⟩ (ct_X6_finding l n g p0_paths p0_water p0_wall p0_kind p0_place p0_facing p0_age p0_seeds p0_season p0_z p0_spots p1_paths p1_water p1_wall p1_kind p1_place p1_facing p1_age p1_seeds p1_season p1_z p1_spots p2_paths p2_water p2_wall p2_kind p2_place p2_facing p2_age p2_seeds p2_season p2_z p2_spots t_bytes t_length t_sort t_start t_end t_value h_numbers h_bits h_size w_isKept w_told (0 : Int32) q18 hq18) (cwV 1 hts gX6_parts_X6_finding rfl rfl rfl hd_X6_finding ⟨Nat.le_of_ble_eq_true rfl, Nat.le_of_ble_eq_true rfl⟩) ⟨bl_C, va_recv hK hP (ci := 4) (q0 := 0) rfl q_sp, pr_C rfl hB hP hS⟩ rfl rfl hl.1 rfl (lv_room (Nat.le_of_ble_eq_true rfl)) dX6_parts_16 ⟨Nat.le_refl _, Nat.le_refl _⟩) hS rfl (fun hn19 H locs hP hS => ?_)
      have hP : va_P g.1 vwCl (cw g (pk3 (p0_paths, p0_water, p0_wall, p0_kind, p0_place, p0_facing, p0_age, p0_seeds, p0_season, p0_z, p0_spots) (p1_paths, p1_water, p1_wall, p1_kind, p1_place, p1_facing, p1_age, p1_seeds, p1_season, p1_z, p1_spots) (p2_paths, p2_water, p2_wall, p2_kind, p2_place, p2_facing, p2_age, p2_seeds, p2_season, p2_z, p2_spots), w_isKept, (t_bytes, t_length, t_sort, t_start, t_end, t_value), (h_numbers, h_bits, h_size), q18.2)) H := hP
      have hres : (q18.1, q18.2) = res := (Option.some.inj hf)
      have hP := w_eq (congrArg (fun z => cw g (pk3 (p0_paths, p0_water, p0_wall, p0_kind, p0_place, p0_facing, p0_age, p0_seeds, p0_season, p0_z, p0_spots) (p1_paths, p1_water, p1_wall, p1_kind, p1_place, p1_facing, p1_age, p1_seeds, p1_season, p1_z, p1_spots) (p2_paths, p2_water, p2_wall, p2_kind, p2_place, p2_facing, p2_age, p2_seeds, p2_season, p2_z, p2_spots), w_isKept, (t_bytes, t_length, t_sort, t_start, t_end, t_value), (h_numbers, h_bits, h_size), z.2)) hres) hP
      exact W.iret (v := q18.1) hx hb hr (fun t ht hW => ⟨congrArg (fun z => Outcome.returned (some (Value.int z.1))) hres, trivial, by rw [ht]; exact hP, hS.F ht⟩) hS.2.2 dX6_parts_19
set_option maxHeartbeats 4000000 in
set_option maxRecDepth 100000 in
theorem ct_X6_bridges (l : Launch) (n : Nat) (g : GC) (p0_paths : Nat → Int32) (p0_water : Int64) (p0_wall : Int64) (p0_kind : Nat → Int32) (p0_place : Nat → Int32) (p0_facing : Nat → Int32) (p0_age : Nat → Int32) (p0_seeds : Int32) (p0_season : Int32) (p0_z : Int32) (p0_spots : Nat → Int32) (p1_paths : Nat → Int32) (p1_water : Int64) (p1_wall : Int64) (p1_kind : Nat → Int32) (p1_place : Nat → Int32) (p1_facing : Nat → Int32) (p1_age : Nat → Int32) (p1_seeds : Int32) (p1_season : Int32) (p1_z : Int32) (p1_spots : Nat → Int32) (p2_paths : Nat → Int32) (p2_water : Int64) (p2_wall : Int64) (p2_kind : Nat → Int32) (p2_place : Nat → Int32) (p2_facing : Nat → Int32) (p2_age : Nat → Int32) (p2_seeds : Int32) (p2_season : Int32) (p2_z : Int32) (p2_spots : Nat → Int32) (t_bytes : Nat → Int32) (t_length : Int32) (t_sort : Int32) (t_start : Int32) (t_end : Int32) (t_value : Int32) (h_numbers : Nat → Nat → Int32) (h_bits : Nat → Int32) (h_size : Nat → Int32) (w_isKept : Int32) (w_told : Nat → Int32) (a1 : Int32) (a2 : Int32) (res : Int32 × (Nat → Int32)) (hf : fX6_bridges n a1 a2 p0_paths w_told = some res) : Met l yX6_bridges wsX6_bridges ({ frames := 5, cells := 0, slots := 0, locals := 124 }) (va_Pc [.ref (ga g 0), .int a1, .int a2] (cI g (pk3 (p0_paths, p0_water, p0_wall, p0_kind, p0_place, p0_facing, p0_age, p0_seeds, p0_season, p0_z, p0_spots) (p1_paths, p1_water, p1_wall, p1_kind, p1_place, p1_facing, p1_age, p1_seeds, p1_season, p1_z, p1_spots) (p2_paths, p2_water, p2_wall, p2_kind, p2_place, p2_facing, p2_age, p2_seeds, p2_season, p2_z, p2_spots), w_isKept, (t_bytes, t_length, t_sort, t_start, t_end, t_value), (h_numbers, h_bits, h_size), w_told))) (qW (some (.int res.1)) True g.1 (cw g (pk3 (p0_paths, p0_water, p0_wall, p0_kind, p0_place, p0_facing, p0_age, p0_seeds, p0_season, p0_z, p0_spots) (p1_paths, p1_water, p1_wall, p1_kind, p1_place, p1_facing, p1_age, p1_seeds, p1_season, p1_z, p1_spots) (p2_paths, p2_water, p2_wall, p2_kind, p2_place, p2_facing, p2_age, p2_seeds, p2_season, p2_z, p2_spots), w_isKept, (t_bytes, t_length, t_sort, t_start, t_end, t_value), (h_numbers, h_bits, h_size), res.2)) (gA g)) 0 0 (gA g) := by
  refine Met.ofW (cc := cX6_bridges) (maxL := 3) (ret := (some .int)) (by decide) rfl ?_
  intro p e s m args below meth c s₁ B hml hv
  obtain ⟨rfl, hI⟩ := hv
  have hx := B.exec
  have hb := B.bytes
  have hr := B.returns
  have hts := atoms_spec (ws := wsX6_bridges) B.pre
  have hown : s.vm.findClass RX6 = some m.cls := findClass_of_methodNamed B.named
  have hlocks := B.notSynchronized
  have hP := hI.1
  have hB := hI.2
  have hK := hB.1
  have hNW := hB.2.1
  have hS : va_S (gA g) s.heap s.heap [] := va_S.rf
  have hw0 := hts (.fieldLink RX6 10 "SownPaths" "park" "LSownPaths$Park;") (by decide +kernel)
  have iwX6 : ∀ w ∈ wsX60, w ∈ wsX6_bridges := fun w h => List.mem_cons_of_mem _ (List.mem_append_left _ (List.mem_append_right _ h))
  have hl := lv_entry ([.ref (ga g 0), .int a1, .int a2]) (n := 3) (Nat.le_of_ble_eq_true rfl)
  rw [lg_entry_eq]
  generalize (lg_sl ([.ref (ga g 0), .int a1, .int a2]) ++ List.replicate (3 - (lg_sl ([.ref (ga g 0), .int a1, .int a2])).length) Slot.unset).toArray = ls at hl ⊢
  have hl : lv_has ls 3 [(0, .ref (ga g 0)), (1, .int a1), (2, .int a2)] := hl
  unfold fX6_bridges at hf
  refine lv_iload_n hx hb dX6_bridges_0 rfl (lv_at hl 1 rfl) ?_
  obtain ⟨q1, hq1, hf⟩ := bd_some hf
  refine kr_S (st1 := [.int q1]) (va_runS (As := [.int a1]) (rest := []) ⟨hx, hb, hml, hown, hts⟩ (ct_X6_isCell l n a1 q1 hq1) (va_cwS 1 hts gX6_bridges_X6_isCell rfl rfl rfl hn_X6_isCell ⟨Nat.le_of_ble_eq_true rfl, Nat.le_of_ble_eq_true rfl⟩) ⟨bl_N, pr_N rfl hNW⟩ rfl rfl hl.1 rfl (lv_room (Nat.le_of_ble_eq_true rfl)) dX6_bridges_1 ⟨Nat.le_refl _, Nat.le_refl _⟩) rfl (fun hn2 => ?_)
  refine lv_if_eq (tgt := 14) hx hb dX6_bridges_4 (by decide) (fun hc3 => ?_) (fun hc3 => ?_)
  · have hf := (if_pos hc3).symm.trans hf
    refine lv_aload_n hx hb dX6_bridges_14 rfl (lv_at hl 0 rfl) ?_
    refine lv_iconst (v := (0 : Int32)) hx hb dX6_bridges_15 (by decide) ?_
    obtain ⟨q4, hq4, hf⟩ := bd_some hf
    refine kr_W (st1 := [.int q4.1]) (va_runV (As := [.int (0 : Int32)]) (rest := []) ⟨hx, hb, hml, hown, hts⟩ (ct_X6_finding l n g p0_paths p0_water p0_wall p0_kind p0_place p0_facing p0_age p0_seeds p0_season p0_z p0_spots p1_paths p1_water p1_wall p1_kind p1_place p1_facing p1_age p1_seeds p1_season p1_z p1_spots p2_paths p2_water p2_wall p2_kind p2_place p2_facing p2_age p2_seeds p2_season p2_z p2_spots t_bytes t_length t_sort t_start t_end t_value h_numbers h_bits h_size w_isKept w_told (0 : Int32) q4 hq4) (cwV 1 hts gX6_bridges_X6_finding rfl rfl rfl hd_X6_finding ⟨Nat.le_of_ble_eq_true rfl, Nat.le_of_ble_eq_true rfl⟩) ⟨bl_C, va_recv hK hP (ci := 4) (q0 := 0) rfl q_sp, pr_C rfl hB hP hS⟩ rfl rfl hl.1 rfl (lv_room (Nat.le_of_ble_eq_true rfl)) dX6_bridges_16 ⟨Nat.le_refl _, Nat.le_refl _⟩) hS rfl (fun hn5 H locs hP hS => ?_)
    have hP : va_P g.1 vwCl (cw g (pk3 (p0_paths, p0_water, p0_wall, p0_kind, p0_place, p0_facing, p0_age, p0_seeds, p0_season, p0_z, p0_spots) (p1_paths, p1_water, p1_wall, p1_kind, p1_place, p1_facing, p1_age, p1_seeds, p1_season, p1_z, p1_spots) (p2_paths, p2_water, p2_wall, p2_kind, p2_place, p2_facing, p2_age, p2_seeds, p2_season, p2_z, p2_spots), w_isKept, (t_bytes, t_length, t_sort, t_start, t_end, t_value), (h_numbers, h_bits, h_size), q4.2)) H := hP
    have hres : (q4.1, q4.2) = res := (Option.some.inj hf)
    have hP := w_eq (congrArg (fun z => cw g (pk3 (p0_paths, p0_water, p0_wall, p0_kind, p0_place, p0_facing, p0_age, p0_seeds, p0_season, p0_z, p0_spots) (p1_paths, p1_water, p1_wall, p1_kind, p1_place, p1_facing, p1_age, p1_seeds, p1_season, p1_z, p1_spots) (p2_paths, p2_water, p2_wall, p2_kind, p2_place, p2_facing, p2_age, p2_seeds, p2_season, p2_z, p2_spots), w_isKept, (t_bytes, t_length, t_sort, t_start, t_end, t_value), (h_numbers, h_bits, h_size), z.2)) hres) hP
    exact W.iret (v := q4.1) hx hb hr (fun t ht hW => ⟨congrArg (fun z => Outcome.returned (some (Value.int z.1))) hres, trivial, by rw [ht]; exact hP, hS.F ht⟩) hS.2.2 dX6_bridges_19
  · have hf := (if_neg hc3).symm.trans hf
    refine lv_iload_n hx hb dX6_bridges_7 rfl (lv_at hl 2 rfl) ?_
    obtain ⟨q6, hq6, hf⟩ := bd_some hf
    refine kr_S (st1 := [.int q6]) (va_runS (As := [.int a2]) (rest := []) ⟨hx, hb, hml, hown, hts⟩ (ct_X6_isCell l n a2 q6 hq6) (va_cwS 1 hts gX6_bridges_X6_isCell rfl rfl rfl hn_X6_isCell ⟨Nat.le_of_ble_eq_true rfl, Nat.le_of_ble_eq_true rfl⟩) ⟨bl_N, pr_N rfl hNW⟩ rfl rfl hl.1 rfl (lv_room (Nat.le_of_ble_eq_true rfl)) dX6_bridges_8 ⟨Nat.le_refl _, Nat.le_refl _⟩) rfl (fun hn7 => ?_)
    refine lv_if_ne (tgt := 20) hx hb dX6_bridges_11 (by decide) (fun hc8 => ?_) (fun hc8 => ?_)
    · have hf := (if_neg hc8).symm.trans hf
      refine lv_iload_n hx hb dX6_bridges_20 rfl (lv_at hl 1 rfl) ?_
      refine lv_iload_n hx hb dX6_bridges_21 rfl (lv_at hl 2 rfl) ?_
      refine lv_aload_n hx hb dX6_bridges_22 rfl (lv_at hl 0 rfl) ?_
      refine va_get (D := g.1) (ci := 4) (v := .ref (ga g (1 + 0))) (C := RX6) (T := TX6) (N := 7) hx hb hts iwX6 hown hK hP 0 q_sp rfl 0 (by decide) hw0 (fun _ h9 => h9) rfl dX6_bridges_23 ?_
      obtain ⟨q9, hq9, hf⟩ := bd_some hf
      refine kr_S (st1 := [.long q9, .int a2, .int a1]) (va_runV (As := []) (rest := [.int a2, .int a1]) ⟨hx, hb, hml, hown, hts⟩ (ct_X2_pathSet l n g (pk3 (p0_paths, p0_water, p0_wall, p0_kind, p0_place, p0_facing, p0_age, p0_seeds, p0_season, p0_z, p0_spots) (p1_paths, p1_water, p1_wall, p1_kind, p1_place, p1_facing, p1_age, p1_seeds, p1_season, p1_z, p1_spots) (p2_paths, p2_water, p2_wall, p2_kind, p2_place, p2_facing, p2_age, p2_seeds, p2_season, p2_z, p2_spots), w_isKept, (t_bytes, t_length, t_sort, t_start, t_end, t_value), (h_numbers, h_bits, h_size), w_told) 0 (by decide) p0_paths p0_water p0_wall p0_kind p0_place p0_facing p0_age p0_seeds p0_season p0_z p0_spots rfl q9 hq9) (cwV 0 hts gX6_bridges_X2_pathSet rfl rfl rfl hd_X2_pathSet ⟨Nat.le_of_ble_eq_true rfl, Nat.le_of_ble_eq_true rfl⟩) ⟨bl_C, va_recv hK hP (ci := 0) (q0 := (1 + 0)) rfl (e_pk (by decide) rfl (Q := (p0_paths, p0_water, p0_wall, p0_kind, p0_place, p0_facing, p0_age, p0_seeds, p0_season, p0_z, p0_spots))), pr_C rfl hB hP hS⟩ rfl rfl hl.1 rfl (lv_room (Nat.le_of_ble_eq_true rfl)) dX6_bridges_26 ⟨Nat.le_refl _, Nat.le_refl _⟩) rfl (fun hn10 => ?_)
      obtain ⟨q11, hq11, hf⟩ := bd_some hf
      refine kr_S (st1 := [.long q11]) (va_runS (As := [.int a1, .int a2, .long q9]) (rest := []) ⟨hx, hb, hml, hown, hts⟩ (ct_X0_cuts l n a1 a2 q9 q11 hq11) (va_cwS 3 hts gX6_bridges_X0_cuts rfl rfl rfl hn_X0_cuts ⟨Nat.le_of_ble_eq_true rfl, Nat.le_of_ble_eq_true rfl⟩) ⟨bl_N, pr_N rfl hNW⟩ rfl rfl hl.1 rfl (lv_room (Nat.le_of_ble_eq_true rfl)) dX6_bridges_29 ⟨Nat.le_refl _, Nat.le_refl _⟩) rfl (fun hn12 => ?_)
      obtain ⟨q13, hq13, hf⟩ := bd_some hf
      refine kr_S (st1 := [.int q13]) (va_runS (As := [.long q11]) (rest := []) ⟨hx, hb, hml, hown, hts⟩ (ct_J13_bitCount_95d88 l n q11 q13 hq13) (va_cwS 1 hts gX6_bridges_J13_bitCount_95d88 rfl rfl rfl hn_J13_bitCount_95d88 ⟨Nat.le_of_ble_eq_true rfl, Nat.le_of_ble_eq_true rfl⟩) ⟨bl_N, pr_N rfl hNW⟩ rfl rfl hl.1 rfl (lv_room (Nat.le_of_ble_eq_true rfl)) dX6_bridges_32 ⟨Nat.le_refl _, Nat.le_refl _⟩) rfl (fun hn14 => ?_)
      have hres : (q13, w_told) = res := (Option.some.inj hf)
      have hP := w_eq (congrArg (fun z => cw g (pk3 (p0_paths, p0_water, p0_wall, p0_kind, p0_place, p0_facing, p0_age, p0_seeds, p0_season, p0_z, p0_spots) (p1_paths, p1_water, p1_wall, p1_kind, p1_place, p1_facing, p1_age, p1_seeds, p1_season, p1_z, p1_spots) (p2_paths, p2_water, p2_wall, p2_kind, p2_place, p2_facing, p2_age, p2_seeds, p2_season, p2_z, p2_spots), w_isKept, (t_bytes, t_length, t_sort, t_start, t_end, t_value), (h_numbers, h_bits, h_size), z.2)) hres) hP
      exact W.iret (v := q13) hx hb hr (fun t ht hW => ⟨congrArg (fun z => Outcome.returned (some (Value.int z.1))) hres, trivial, by rw [ht]; exact hP, hS.F ht⟩) hS.2.2 dX6_bridges_35
    · have hf := (if_pos hc8).symm.trans hf
      refine lv_aload_n hx hb dX6_bridges_14 rfl (lv_at hl 0 rfl) ?_
      refine lv_iconst (v := (0 : Int32)) hx hb dX6_bridges_15 (by decide) ?_
      obtain ⟨q15, hq15, hf⟩ := bd_some hf
      refine kr_W (st1 := [.int q15.1]) (va_runV (As := [.int (0 : Int32)]) (rest := []) ⟨hx, hb, hml, hown, hts⟩ (ct_X6_finding l n g p0_paths p0_water p0_wall p0_kind p0_place p0_facing p0_age p0_seeds p0_season p0_z p0_spots p1_paths p1_water p1_wall p1_kind p1_place p1_facing p1_age p1_seeds p1_season p1_z p1_spots p2_paths p2_water p2_wall p2_kind p2_place p2_facing p2_age p2_seeds p2_season p2_z p2_spots t_bytes t_length t_sort t_start t_end t_value h_numbers h_bits h_size w_isKept w_told (0 : Int32) q15 hq15) (cwV 1 hts gX6_bridges_X6_finding rfl rfl rfl hd_X6_finding ⟨Nat.le_of_ble_eq_true rfl, Nat.le_of_ble_eq_true rfl⟩) ⟨bl_C, va_recv hK hP (ci := 4) (q0 := 0) rfl q_sp, pr_C rfl hB hP hS⟩ rfl rfl hl.1 rfl (lv_room (Nat.le_of_ble_eq_true rfl)) dX6_bridges_16 ⟨Nat.le_refl _, Nat.le_refl _⟩) hS rfl (fun hn16 H locs hP hS => ?_)
      have hP : va_P g.1 vwCl (cw g (pk3 (p0_paths, p0_water, p0_wall, p0_kind, p0_place, p0_facing, p0_age, p0_seeds, p0_season, p0_z, p0_spots) (p1_paths, p1_water, p1_wall, p1_kind, p1_place, p1_facing, p1_age, p1_seeds, p1_season, p1_z, p1_spots) (p2_paths, p2_water, p2_wall, p2_kind, p2_place, p2_facing, p2_age, p2_seeds, p2_season, p2_z, p2_spots), w_isKept, (t_bytes, t_length, t_sort, t_start, t_end, t_value), (h_numbers, h_bits, h_size), q15.2)) H := hP
      have hres : (q15.1, q15.2) = res := (Option.some.inj hf)
      have hP := w_eq (congrArg (fun z => cw g (pk3 (p0_paths, p0_water, p0_wall, p0_kind, p0_place, p0_facing, p0_age, p0_seeds, p0_season, p0_z, p0_spots) (p1_paths, p1_water, p1_wall, p1_kind, p1_place, p1_facing, p1_age, p1_seeds, p1_season, p1_z, p1_spots) (p2_paths, p2_water, p2_wall, p2_kind, p2_place, p2_facing, p2_age, p2_seeds, p2_season, p2_z, p2_spots), w_isKept, (t_bytes, t_length, t_sort, t_start, t_end, t_value), (h_numbers, h_bits, h_size), z.2)) hres) hP
      exact W.iret (v := q15.1) hx hb hr (fun t ht hW => ⟨congrArg (fun z => Outcome.returned (some (Value.int z.1))) hres, trivial, by rw [ht]; exact hP, hS.F ht⟩) hS.2.2 dX6_bridges_19
set_option maxHeartbeats 4000000 in
set_option maxRecDepth 100000 in
theorem ct_X0_fewestNew (l : Launch) (n : Nat) (a0 : Int32) (a1 : Int32) (a2 : Int64) (a4 : Int64) (res : Int32) (hf : fX0_fewestNew n a0 a1 a2 a4 = some res) : Met l yX0_fewestNew wsX0_fewestNew ({ frames := 3, cells := 0, slots := 0, locals := 73 }) (va_Pc [.int a0, .int a1, .long a2, .long a4] NW) (qS (some (.int res)) True) 0 0 (fun _ => False) := by
  refine Met.ofW (cc := cX0_fewestNew) (maxL := 11) (ret := (some .int)) (by decide) rfl ?_
  intro p e s m args below meth c s₁ B hml hv
  obtain ⟨rfl, hI⟩ := hv
  have hx := B.exec
  have hb := B.bytes
  have hr := B.returns
  have hts := atoms_spec (ws := wsX0_fewestNew) B.pre
  have hown : s.vm.findClass RX0 = some m.cls := findClass_of_methodNamed B.named
  have hlocks := B.notSynchronized
  have hNW : NW s := hI
  have hw0 := hts (.initialized RX6) (by decide +kernel)
  have hw1 := hts (.static yX6_bit) (by decide +kernel)
  have hl := lv_entry ([.int a0, .int a1, .long a2, .long a4]) (n := 11) (Nat.le_of_ble_eq_true rfl)
  rw [lg_entry_eq]
  generalize (lg_sl ([.int a0, .int a1, .long a2, .long a4]) ++ List.replicate (11 - (lg_sl ([.int a0, .int a1, .long a2, .long a4])).length) Slot.unset).toArray = ls at hl ⊢
  have hl : lv_has ls 11 [(0, .int a0), (1, .int a1), (2, .long a2), (4, .long a4)] := hl
  unfold fX0_fewestNew at hf
  refine lv_iload_n hx hb dX0_fewestNew_0 rfl (lv_at hl 0 rfl) ?_
  refine lv_lload_n hx hb dX0_fewestNew_1 rfl (lv_at hl 2 rfl) ?_
  obtain ⟨q1, hq1, hf⟩ := bd_some hf
  refine kr_S (st1 := [.long q1]) (va_runS (As := [.int a0, .long a2]) (rest := []) ⟨hx, hb, hml, hown, hts⟩ (ct_X0_reach l n a0 a2 q1 hq1) (va_cwS 2 hts gX0_fewestNew_X0_reach rfl rfl rfl hn_X0_reach ⟨Nat.le_of_ble_eq_true rfl, Nat.le_of_ble_eq_true rfl⟩) ⟨bl_N, pr_N rfl hNW⟩ rfl rfl hl.1 rfl (lv_room (Nat.le_of_ble_eq_true rfl)) dX0_fewestNew_2 ⟨Nat.le_refl _, Nat.le_refl _⟩) rfl (fun hn2 => ?_)
  refine lv_lstore (lv' := [(6, .long q1), (0, .int a0), (1, .int a1), (2, .long a2), (4, .long a4)]) hx hb dX0_fewestNew_5 hl (by decide) rfl (fun ls hl => ?_)
  refine lv_iconst (v := (0 : Int32)) hx hb dX0_fewestNew_7 (by decide) ?_
  refine lv_istore (lv' := [(8, .int (0 : Int32)), (6, .long q1), (0, .int a0), (1, .int a1), (2, .long a2), (4, .long a4)]) hx hb dX0_fewestNew_8 hl (by decide) rfl (fun ls hl => ?_)
  refine lp_run hf (fun s3 => ∀ (ls : Array Slot), lv_has ls 11 [(0, .int a0), (1, .int a1), (2, .long a2), (4, .long a4), (6, .long s3.1), (8, .int s3.2)] → W p l e (headSpec wsX0_fewestNew ({ frames := 3, cells := 0, slots := 0, locals := 73 })).room s m ([.int a0, .int a1, .long a2, .long a4] : List Value).toArray below meth c s.heap [] 0 0 (MQ below (qS (some (.int res)) True) ([.int a0, .int a1, .long a2, .long a4] : List Value).toArray s 0 0 (fun _ => False)) (F0 m 10 ls [])) (fun v => Sum.elim (fun v4 => ∀ (ls : Array Slot), lv_has ls 11 [] → W p l e (headSpec wsX0_fewestNew ({ frames := 3, cells := 0, slots := 0, locals := 73 })).room s m ([.int a0, .int a1, .long a2, .long a4] : List Value).toArray below meth c s.heap [] 0 0 (MQ below (qS (some (.int res)) True) ([.int a0, .int a1, .long a2, .long a4] : List Value).toArray s 0 0 (fun _ => False)) (F0 m 64 ls [])) (fun x => x = res) v) ?_ ?_ _ (lv_sub hl [2, 3, 4, 5, 1, 0] rfl)
  · intro v4 hf
    rcases v4 with v4 | v4
    · have hf := el_l hf
      intro ls hl
      refine lv_iconst (v := (-1 : Int32)) hx hb dX0_fewestNew_64 (by decide) ?_
      have hres : (-1 : Int32) = res := (Option.some.inj hf)
      exact W.iret (v := (-1 : Int32)) hx hb hr (fun t ht hW => ⟨congrArg (fun z => Outcome.returned (some (Value.int z))) hres, trivial, ht⟩) t_nil dX0_fewestNew_65
    · exact Option.some.inj hf
  · intro s3 r1 hf hback1 hexit1 ls hl
    refine lv_iload hx hb dX0_fewestNew_10 (lv_at hl 5 rfl) ?_
    refine lv_bipush (v := (36 : Int32)) hx hb dX0_fewestNew_12 (by decide) ?_
    refine lv_icmp_gt (tgt := 64) hx hb dX0_fewestNew_14 (by decide) (fun hc5 => ?_) (fun hc5 => ?_)
    · have hf := (if_pos hc5).symm.trans hf
      exact hexit1 (.inl (s3.1, s3.2)) (Option.some.inj hf).symm ls (lv_sub hl [] rfl)
    · have hf := (if_neg hc5).symm.trans hf
      refine lv_lload hx hb dX0_fewestNew_17 (lv_at hl 4 rfl) ?_
      refine lv_iload_n hx hb dX0_fewestNew_19 rfl (lv_at hl 1 rfl) ?_
      obtain ⟨q6, hq6, hf⟩ := bd_some hf
      refine kr_S (st1 := [.long q6, .long s3.1]) (va_runSN (As := [.int a1]) (rest := [.long s3.1]) ⟨hx, hb, hml, hown, hts⟩ (ct_X6_bit l n a1 q6 hq6) (⟨va_cnB 1 hts gX0_fewestNew_X6_bit_n17 rfl rfl rfl (ml_X0_17 hNW) hw0 hn_X6_bit ⟨Nat.le_of_ble_eq_true rfl, Nat.le_of_ble_eq_true rfl⟩, hw1, trivial⟩) ⟨bl_N, pr_N rfl hNW⟩ rfl rfl hl.1 rfl (lv_room (Nat.le_of_ble_eq_true rfl)) dX0_fewestNew_20 ⟨Nat.le_refl _, Nat.le_refl _⟩) rfl (fun hn7 => ?_)
      refine lv_land hx hb dX0_fewestNew_23 ?_
      refine lv_lconst (v := (0 : Int64)) hx hb dX0_fewestNew_24 (by decide) ?_
      refine W.lcmp hx hb dX0_fewestNew_25 ?_
      refine lv_if_eq (tgt := 32) hx hb dX0_fewestNew_26 (by decide) (fun hc8 => ?_) (fun hc8 => ?_)
      · have hc8 := (lg_cmp_eq (s3.1 &&& q6) (0 : Int64)).mp hc8
        have hf := (if_pos hc8).symm.trans hf
        refine lv_iload_n hx hb dX0_fewestNew_32 rfl (lv_at hl 0 rfl) ?_
        obtain ⟨q9, hq9, hf⟩ := bd_some hf
        refine kr_S (st1 := [.long q9]) (va_runSN (As := [.int a0]) (rest := []) ⟨hx, hb, hml, hown, hts⟩ (ct_X6_bit l n a0 q9 hq9) (⟨va_cnB 1 hts gX0_fewestNew_X6_bit_n17 rfl rfl rfl (ml_X0_17 hNW) hw0 hn_X6_bit ⟨Nat.le_of_ble_eq_true rfl, Nat.le_of_ble_eq_true rfl⟩, hw1, trivial⟩) ⟨bl_N, pr_N rfl hNW⟩ rfl rfl hl.1 rfl (lv_room (Nat.le_of_ble_eq_true rfl)) dX0_fewestNew_33 ⟨Nat.le_refl _, Nat.le_refl _⟩) rfl (fun hn10 => ?_)
        refine lv_lload hx hb dX0_fewestNew_36 (lv_at hl 4 rfl) ?_
        obtain ⟨q11, hq11, hf⟩ := bd_some hf
        refine kr_S (st1 := [.long q11, .long q9]) (va_runS (As := [.long s3.1]) (rest := [.long q9]) ⟨hx, hb, hml, hown, hts⟩ (ct_X0_neighbours l n s3.1 q11 hq11) (va_cwS 1 hts gX0_fewestNew_X0_neighbours rfl rfl rfl hn_X0_neighbours ⟨Nat.le_of_ble_eq_true rfl, Nat.le_of_ble_eq_true rfl⟩) ⟨bl_N, pr_N rfl hNW⟩ rfl rfl hl.1 rfl (lv_room (Nat.le_of_ble_eq_true rfl)) dX0_fewestNew_38 ⟨Nat.le_refl _, Nat.le_refl _⟩) rfl (fun hn12 => ?_)
        refine lv_lor hx hb dX0_fewestNew_41 ?_
        refine lv_lload hx hb dX0_fewestNew_42 (lv_at hl 3 rfl) ?_
        refine lv_land hx hb dX0_fewestNew_44 ?_
        refine lv_lstore (lv' := [(9, .long ((q9 ||| q11) &&& a4)), (0, .int a0), (1, .int a1), (2, .long a2), (4, .long a4), (6, .long s3.1), (8, .int s3.2)]) hx hb dX0_fewestNew_45 hl (by decide) rfl (fun ls hl => ?_)
        refine lv_lload hx hb dX0_fewestNew_47 (lv_at hl 5 rfl) ?_
        refine lv_lload hx hb dX0_fewestNew_49 (lv_at hl 0 rfl) ?_
        refine lv_lor hx hb dX0_fewestNew_51 ?_
        refine lv_lload_n hx hb dX0_fewestNew_52 rfl (lv_at hl 3 rfl) ?_
        obtain ⟨q13, hq13, hf⟩ := bd_some hf
        refine kr_S (st1 := [.long q13]) (va_runS (As := [.long (s3.1 ||| ((q9 ||| q11) &&& a4)), .long a2]) (rest := []) ⟨hx, hb, hml, hown, hts⟩ (ct_X0_spread l n (s3.1 ||| ((q9 ||| q11) &&& a4)) a2 q13 hq13) (va_cwS 2 hts gX0_fewestNew_X0_spread rfl rfl rfl hn_X0_spread ⟨Nat.le_of_ble_eq_true rfl, Nat.le_of_ble_eq_true rfl⟩) ⟨bl_N, pr_N rfl hNW⟩ rfl rfl hl.1 rfl (lv_room (Nat.le_of_ble_eq_true rfl)) dX0_fewestNew_53 ⟨Nat.le_refl _, Nat.le_refl _⟩) rfl (fun hn14 => ?_)
        refine lv_lstore (lv' := [(6, .long q13), (9, .long ((q9 ||| q11) &&& a4)), (0, .int a0), (1, .int a1), (2, .long a2), (4, .long a4), (8, .int s3.2)]) hx hb dX0_fewestNew_56 hl (by decide) rfl (fun ls hl => ?_)
        refine lv_iinc (v := (s3.2 + (1 : Int32))) (lv' := [(8, .int (s3.2 + (1 : Int32))), (6, .long q13), (9, .long ((q9 ||| q11) &&& a4)), (0, .int a0), (1, .int a1), (2, .long a2), (4, .long a4)]) hx hb dX0_fewestNew_58 hl (k := 6) rfl (congrArg (fun y => s3.2 + y) (by decide : Int32.ofInt (1) = (1 : Int32))) (by decide) rfl (fun ls hl => ?_)
        refine lv_goto (tgt := 10) hx hb dX0_fewestNew_61 (by decide) ?_
        exact hback1 _ (Option.some.inj hf).symm ls (lv_sub hl [3, 4, 5, 6, 1, 0] rfl)
      · have hc8 : ¬ ((s3.1 &&& q6) = (0 : Int64)) := fun h => hc8 ((lg_cmp_eq (s3.1 &&& q6) (0 : Int64)).mpr h)
        have hf := (if_neg hc8).symm.trans hf
        refine lv_iload hx hb dX0_fewestNew_29 (lv_at hl 5 rfl) ?_
        have hres : s3.2 = res := (hexit1 _ ((Option.some.inj hf)).symm)
        exact W.iret (v := s3.2) hx hb hr (fun t ht hW => ⟨congrArg (fun z => Outcome.returned (some (Value.int z))) hres, trivial, ht⟩) t_nil dX0_fewestNew_31
set_option maxHeartbeats 4000000 in
set_option maxRecDepth 100000 in
theorem ct_X6_mend (l : Launch) (n : Nat) (g : GC) (p0_paths : Nat → Int32) (p0_water : Int64) (p0_wall : Int64) (p0_kind : Nat → Int32) (p0_place : Nat → Int32) (p0_facing : Nat → Int32) (p0_age : Nat → Int32) (p0_seeds : Int32) (p0_season : Int32) (p0_z : Int32) (p0_spots : Nat → Int32) (p1_paths : Nat → Int32) (p1_water : Int64) (p1_wall : Int64) (p1_kind : Nat → Int32) (p1_place : Nat → Int32) (p1_facing : Nat → Int32) (p1_age : Nat → Int32) (p1_seeds : Int32) (p1_season : Int32) (p1_z : Int32) (p1_spots : Nat → Int32) (p2_paths : Nat → Int32) (p2_water : Int64) (p2_wall : Int64) (p2_kind : Nat → Int32) (p2_place : Nat → Int32) (p2_facing : Nat → Int32) (p2_age : Nat → Int32) (p2_seeds : Int32) (p2_season : Int32) (p2_z : Int32) (p2_spots : Nat → Int32) (t_bytes : Nat → Int32) (t_length : Int32) (t_sort : Int32) (t_start : Int32) (t_end : Int32) (t_value : Int32) (h_numbers : Nat → Nat → Int32) (h_bits : Nat → Int32) (h_size : Nat → Int32) (w_isKept : Int32) (w_told : Nat → Int32) (a1 : Int32) (a2 : Int32) (res : Int32 × (Nat → Int32)) (hf : fX6_mend n a1 a2 p0_paths p0_water p0_wall w_told = some res) : Met l yX6_mend wsX6_mend ({ frames := 4, cells := 0, slots := 0, locals := 103 }) (va_Pc [.ref (ga g 0), .int a1, .int a2] (cI g (pk3 (p0_paths, p0_water, p0_wall, p0_kind, p0_place, p0_facing, p0_age, p0_seeds, p0_season, p0_z, p0_spots) (p1_paths, p1_water, p1_wall, p1_kind, p1_place, p1_facing, p1_age, p1_seeds, p1_season, p1_z, p1_spots) (p2_paths, p2_water, p2_wall, p2_kind, p2_place, p2_facing, p2_age, p2_seeds, p2_season, p2_z, p2_spots), w_isKept, (t_bytes, t_length, t_sort, t_start, t_end, t_value), (h_numbers, h_bits, h_size), w_told))) (qW (some (.int res.1)) True g.1 (cw g (pk3 (p0_paths, p0_water, p0_wall, p0_kind, p0_place, p0_facing, p0_age, p0_seeds, p0_season, p0_z, p0_spots) (p1_paths, p1_water, p1_wall, p1_kind, p1_place, p1_facing, p1_age, p1_seeds, p1_season, p1_z, p1_spots) (p2_paths, p2_water, p2_wall, p2_kind, p2_place, p2_facing, p2_age, p2_seeds, p2_season, p2_z, p2_spots), w_isKept, (t_bytes, t_length, t_sort, t_start, t_end, t_value), (h_numbers, h_bits, h_size), res.2)) (gA g)) 0 0 (gA g) := by
  refine Met.ofW (cc := cX6_mend) (maxL := 4) (ret := (some .int)) (by decide) rfl ?_
  intro p e s m args below meth c s₁ B hml hv
  obtain ⟨rfl, hI⟩ := hv
  have hx := B.exec
  have hb := B.bytes
  have hr := B.returns
  have hts := atoms_spec (ws := wsX6_mend) B.pre
  have hown : s.vm.findClass RX6 = some m.cls := findClass_of_methodNamed B.named
  have hlocks := B.notSynchronized
  have hP := hI.1
  have hB := hI.2
  have hK := hB.1
  have hNW := hB.2.1
  have hS : va_S (gA g) s.heap s.heap [] := va_S.rf
  have hw0 := hts (.fieldLink RX6 10 "SownPaths" "park" "LSownPaths$Park;") (by decide +kernel)
  have iwX6 : ∀ w ∈ wsX60, w ∈ wsX6_mend := fun w h => List.mem_cons_of_mem _ (List.mem_append_left _ (List.mem_append_right _ h))
  have hl := lv_entry ([.ref (ga g 0), .int a1, .int a2]) (n := 4) (Nat.le_of_ble_eq_true rfl)
  rw [lg_entry_eq]
  generalize (lg_sl ([.ref (ga g 0), .int a1, .int a2]) ++ List.replicate (4 - (lg_sl ([.ref (ga g 0), .int a1, .int a2])).length) Slot.unset).toArray = ls at hl ⊢
  have hl : lv_has ls 4 [(0, .ref (ga g 0)), (1, .int a1), (2, .int a2)] := hl
  unfold fX6_mend at hf
  refine lv_iload_n hx hb dX6_mend_0 rfl (lv_at hl 1 rfl) ?_
  obtain ⟨q1, hq1, hf⟩ := bd_some hf
  refine kr_S (st1 := [.int q1]) (va_runS (As := [.int a1]) (rest := []) ⟨hx, hb, hml, hown, hts⟩ (ct_X6_isCell l n a1 q1 hq1) (va_cwS 1 hts gX6_mend_X6_isCell rfl rfl rfl hn_X6_isCell ⟨Nat.le_of_ble_eq_true rfl, Nat.le_of_ble_eq_true rfl⟩) ⟨bl_N, pr_N rfl hNW⟩ rfl rfl hl.1 rfl (lv_room (Nat.le_of_ble_eq_true rfl)) dX6_mend_1 ⟨Nat.le_refl _, Nat.le_refl _⟩) rfl (fun hn2 => ?_)
  refine lv_if_eq (tgt := 14) hx hb dX6_mend_4 (by decide) (fun hc3 => ?_) (fun hc3 => ?_)
  · have hf := (if_pos hc3).symm.trans hf
    refine lv_aload_n hx hb dX6_mend_14 rfl (lv_at hl 0 rfl) ?_
    refine lv_iconst (v := (0 : Int32)) hx hb dX6_mend_15 (by decide) ?_
    obtain ⟨q4, hq4, hf⟩ := bd_some hf
    refine kr_W (st1 := [.int q4.1]) (va_runV (As := [.int (0 : Int32)]) (rest := []) ⟨hx, hb, hml, hown, hts⟩ (ct_X6_finding l n g p0_paths p0_water p0_wall p0_kind p0_place p0_facing p0_age p0_seeds p0_season p0_z p0_spots p1_paths p1_water p1_wall p1_kind p1_place p1_facing p1_age p1_seeds p1_season p1_z p1_spots p2_paths p2_water p2_wall p2_kind p2_place p2_facing p2_age p2_seeds p2_season p2_z p2_spots t_bytes t_length t_sort t_start t_end t_value h_numbers h_bits h_size w_isKept w_told (0 : Int32) q4 hq4) (cwV 1 hts gX6_mend_X6_finding rfl rfl rfl hd_X6_finding ⟨Nat.le_of_ble_eq_true rfl, Nat.le_of_ble_eq_true rfl⟩) ⟨bl_C, va_recv hK hP (ci := 4) (q0 := 0) rfl q_sp, pr_C rfl hB hP hS⟩ rfl rfl hl.1 rfl (lv_room (Nat.le_of_ble_eq_true rfl)) dX6_mend_16 ⟨Nat.le_refl _, Nat.le_refl _⟩) hS rfl (fun hn5 H locs hP hS => ?_)
    have hP : va_P g.1 vwCl (cw g (pk3 (p0_paths, p0_water, p0_wall, p0_kind, p0_place, p0_facing, p0_age, p0_seeds, p0_season, p0_z, p0_spots) (p1_paths, p1_water, p1_wall, p1_kind, p1_place, p1_facing, p1_age, p1_seeds, p1_season, p1_z, p1_spots) (p2_paths, p2_water, p2_wall, p2_kind, p2_place, p2_facing, p2_age, p2_seeds, p2_season, p2_z, p2_spots), w_isKept, (t_bytes, t_length, t_sort, t_start, t_end, t_value), (h_numbers, h_bits, h_size), q4.2)) H := hP
    have hres : (q4.1, q4.2) = res := (Option.some.inj hf)
    have hP := w_eq (congrArg (fun z => cw g (pk3 (p0_paths, p0_water, p0_wall, p0_kind, p0_place, p0_facing, p0_age, p0_seeds, p0_season, p0_z, p0_spots) (p1_paths, p1_water, p1_wall, p1_kind, p1_place, p1_facing, p1_age, p1_seeds, p1_season, p1_z, p1_spots) (p2_paths, p2_water, p2_wall, p2_kind, p2_place, p2_facing, p2_age, p2_seeds, p2_season, p2_z, p2_spots), w_isKept, (t_bytes, t_length, t_sort, t_start, t_end, t_value), (h_numbers, h_bits, h_size), z.2)) hres) hP
    exact W.iret (v := q4.1) hx hb hr (fun t ht hW => ⟨congrArg (fun z => Outcome.returned (some (Value.int z.1))) hres, trivial, by rw [ht]; exact hP, hS.F ht⟩) hS.2.2 dX6_mend_19
  · have hf := (if_neg hc3).symm.trans hf
    refine lv_iload_n hx hb dX6_mend_7 rfl (lv_at hl 2 rfl) ?_
    obtain ⟨q6, hq6, hf⟩ := bd_some hf
    refine kr_S (st1 := [.int q6]) (va_runS (As := [.int a2]) (rest := []) ⟨hx, hb, hml, hown, hts⟩ (ct_X6_isCell l n a2 q6 hq6) (va_cwS 1 hts gX6_mend_X6_isCell rfl rfl rfl hn_X6_isCell ⟨Nat.le_of_ble_eq_true rfl, Nat.le_of_ble_eq_true rfl⟩) ⟨bl_N, pr_N rfl hNW⟩ rfl rfl hl.1 rfl (lv_room (Nat.le_of_ble_eq_true rfl)) dX6_mend_8 ⟨Nat.le_refl _, Nat.le_refl _⟩) rfl (fun hn7 => ?_)
    refine lv_if_ne (tgt := 20) hx hb dX6_mend_11 (by decide) (fun hc8 => ?_) (fun hc8 => ?_)
    · have hf := (if_neg hc8).symm.trans hf
      refine lv_iload_n hx hb dX6_mend_20 rfl (lv_at hl 1 rfl) ?_
      refine lv_iload_n hx hb dX6_mend_21 rfl (lv_at hl 2 rfl) ?_
      refine lv_aload_n hx hb dX6_mend_22 rfl (lv_at hl 0 rfl) ?_
      refine va_get (D := g.1) (ci := 4) (v := .ref (ga g (1 + 0))) (C := RX6) (T := TX6) (N := 7) hx hb hts iwX6 hown hK hP 0 q_sp rfl 0 (by decide) hw0 (fun _ h9 => h9) rfl dX6_mend_23 ?_
      obtain ⟨q9, hq9, hf⟩ := bd_some hf
      refine kr_S (st1 := [.long q9, .int a2, .int a1]) (va_runV (As := []) (rest := [.int a2, .int a1]) ⟨hx, hb, hml, hown, hts⟩ (ct_X2_pathSet l n g (pk3 (p0_paths, p0_water, p0_wall, p0_kind, p0_place, p0_facing, p0_age, p0_seeds, p0_season, p0_z, p0_spots) (p1_paths, p1_water, p1_wall, p1_kind, p1_place, p1_facing, p1_age, p1_seeds, p1_season, p1_z, p1_spots) (p2_paths, p2_water, p2_wall, p2_kind, p2_place, p2_facing, p2_age, p2_seeds, p2_season, p2_z, p2_spots), w_isKept, (t_bytes, t_length, t_sort, t_start, t_end, t_value), (h_numbers, h_bits, h_size), w_told) 0 (by decide) p0_paths p0_water p0_wall p0_kind p0_place p0_facing p0_age p0_seeds p0_season p0_z p0_spots rfl q9 hq9) (cwV 0 hts gX6_mend_X2_pathSet rfl rfl rfl hd_X2_pathSet ⟨Nat.le_of_ble_eq_true rfl, Nat.le_of_ble_eq_true rfl⟩) ⟨bl_C, va_recv hK hP (ci := 0) (q0 := (1 + 0)) rfl (e_pk (by decide) rfl (Q := (p0_paths, p0_water, p0_wall, p0_kind, p0_place, p0_facing, p0_age, p0_seeds, p0_season, p0_z, p0_spots))), pr_C rfl hB hP hS⟩ rfl rfl hl.1 rfl (lv_room (Nat.le_of_ble_eq_true rfl)) dX6_mend_26 ⟨Nat.le_refl _, Nat.le_refl _⟩) rfl (fun hn10 => ?_)
      refine lv_aload_n hx hb dX6_mend_29 rfl (lv_at hl 0 rfl) ?_
      refine va_get (D := g.1) (ci := 4) (v := .ref (ga g (1 + 0))) (C := RX6) (T := TX6) (N := 7) hx hb hts iwX6 hown hK hP 0 q_sp rfl 0 (by decide) hw0 (fun _ h9 => h9) rfl dX6_mend_30 ?_
      obtain ⟨q11, hq11, hf⟩ := bd_some hf
      refine kr_S (st1 := [.long q11, .long q9, .int a2, .int a1]) (va_runV (As := []) (rest := [.long q9, .int a2, .int a1]) ⟨hx, hb, hml, hown, hts⟩ (ct_X2_grassSet l n g (pk3 (p0_paths, p0_water, p0_wall, p0_kind, p0_place, p0_facing, p0_age, p0_seeds, p0_season, p0_z, p0_spots) (p1_paths, p1_water, p1_wall, p1_kind, p1_place, p1_facing, p1_age, p1_seeds, p1_season, p1_z, p1_spots) (p2_paths, p2_water, p2_wall, p2_kind, p2_place, p2_facing, p2_age, p2_seeds, p2_season, p2_z, p2_spots), w_isKept, (t_bytes, t_length, t_sort, t_start, t_end, t_value), (h_numbers, h_bits, h_size), w_told) 0 (by decide) p0_paths p0_water p0_wall p0_kind p0_place p0_facing p0_age p0_seeds p0_season p0_z p0_spots rfl q11 hq11) (cwV 0 hts gX6_mend_X2_grassSet rfl rfl rfl hd_X2_grassSet ⟨Nat.le_of_ble_eq_true rfl, Nat.le_of_ble_eq_true rfl⟩) ⟨bl_C, va_recv hK hP (ci := 0) (q0 := (1 + 0)) rfl (e_pk (by decide) rfl (Q := (p0_paths, p0_water, p0_wall, p0_kind, p0_place, p0_facing, p0_age, p0_seeds, p0_season, p0_z, p0_spots))), pr_C rfl hB hP hS⟩ rfl rfl hl.1 rfl (lv_room (Nat.le_of_ble_eq_true rfl)) dX6_mend_33 ⟨Nat.le_refl _, Nat.le_refl _⟩) rfl (fun hn12 => ?_)
      obtain ⟨q13, hq13, hf⟩ := bd_some hf
      refine kr_S (st1 := [.int q13]) (va_runS (As := [.int a1, .int a2, .long q9, .long q11]) (rest := []) ⟨hx, hb, hml, hown, hts⟩ (ct_X0_fewestNew l n a1 a2 q9 q11 q13 hq13) (va_cwS 4 hts gX6_mend_X0_fewestNew rfl rfl rfl hn_X0_fewestNew ⟨Nat.le_of_ble_eq_true rfl, Nat.le_of_ble_eq_true rfl⟩) ⟨bl_N, pr_N rfl hNW⟩ rfl rfl hl.1 rfl (lv_room (Nat.le_of_ble_eq_true rfl)) dX6_mend_36 ⟨Nat.le_refl _, Nat.le_refl _⟩) rfl (fun hn14 => ?_)
      refine lv_istore_n (lv' := [(3, .int q13), (0, .ref (ga g 0)), (1, .int a1), (2, .int a2)]) hx hb dX6_mend_39 rfl hl (by decide) rfl (fun ls hl => ?_)
      refine lv_iload_n hx hb dX6_mend_40 rfl (lv_at hl 0 rfl) ?_
      refine lv_if_ge (tgt := 52) hx hb dX6_mend_41 (by decide) (fun hc15 => ?_) (fun hc15 => ?_)
      · have hf := (if_pos hc15).symm.trans hf
        refine lv_iload_n hx hb dX6_mend_52 rfl (lv_at hl 0 rfl) ?_
        have hres : (q13, w_told) = res := (Option.some.inj hf)
        have hP := w_eq (congrArg (fun z => cw g (pk3 (p0_paths, p0_water, p0_wall, p0_kind, p0_place, p0_facing, p0_age, p0_seeds, p0_season, p0_z, p0_spots) (p1_paths, p1_water, p1_wall, p1_kind, p1_place, p1_facing, p1_age, p1_seeds, p1_season, p1_z, p1_spots) (p2_paths, p2_water, p2_wall, p2_kind, p2_place, p2_facing, p2_age, p2_seeds, p2_season, p2_z, p2_spots), w_isKept, (t_bytes, t_length, t_sort, t_start, t_end, t_value), (h_numbers, h_bits, h_size), z.2)) hres) hP
        exact W.iret (v := q13) hx hb hr (fun t ht hW => ⟨congrArg (fun z => Outcome.returned (some (Value.int z.1))) hres, trivial, by rw [ht]; exact hP, hS.F ht⟩) hS.2.2 dX6_mend_53
      · have hf := (if_neg hc15).symm.trans hf
        refine lv_aload_n hx hb dX6_mend_44 rfl (lv_at hl 1 rfl) ?_
        refine lv_iconst (v := (3 : Int32)) hx hb dX6_mend_45 (by decide) ?_
        obtain ⟨q16, hq16, hf⟩ := bd_some hf
        refine kr_W (st1 := [.int q16.1]) (va_runV (As := [.int (3 : Int32)]) (rest := []) ⟨hx, hb, hml, hown, hts⟩ (ct_X6_finding l n g p0_paths p0_water p0_wall p0_kind p0_place p0_facing p0_age p0_seeds p0_season p0_z p0_spots p1_paths p1_water p1_wall p1_kind p1_place p1_facing p1_age p1_seeds p1_season p1_z p1_spots p2_paths p2_water p2_wall p2_kind p2_place p2_facing p2_age p2_seeds p2_season p2_z p2_spots t_bytes t_length t_sort t_start t_end t_value h_numbers h_bits h_size w_isKept w_told (3 : Int32) q16 hq16) (cwV 1 hts gX6_mend_X6_finding rfl rfl rfl hd_X6_finding ⟨Nat.le_of_ble_eq_true rfl, Nat.le_of_ble_eq_true rfl⟩) ⟨bl_C, va_recv hK hP (ci := 4) (q0 := 0) rfl q_sp, pr_C rfl hB hP hS⟩ rfl rfl hl.1 rfl (lv_room (Nat.le_of_ble_eq_true rfl)) dX6_mend_46 ⟨Nat.le_refl _, Nat.le_refl _⟩) hS rfl (fun hn17 H locs hP hS => ?_)
        have hP : va_P g.1 vwCl (cw g (pk3 (p0_paths, p0_water, p0_wall, p0_kind, p0_place, p0_facing, p0_age, p0_seeds, p0_season, p0_z, p0_spots) (p1_paths, p1_water, p1_wall, p1_kind, p1_place, p1_facing, p1_age, p1_seeds, p1_season, p1_z, p1_spots) (p2_paths, p2_water, p2_wall, p2_kind, p2_place, p2_facing, p2_age, p2_seeds, p2_season, p2_z, p2_spots), w_isKept, (t_bytes, t_length, t_sort, t_start, t_end, t_value), (h_numbers, h_bits, h_size), q16.2)) H := hP
        refine lv_goto (tgt := 53) hx hb dX6_mend_49 (by decide) ?_
        have hres : (q16.1, q16.2) = res := (Option.some.inj hf)
        have hP := w_eq (congrArg (fun z => cw g (pk3 (p0_paths, p0_water, p0_wall, p0_kind, p0_place, p0_facing, p0_age, p0_seeds, p0_season, p0_z, p0_spots) (p1_paths, p1_water, p1_wall, p1_kind, p1_place, p1_facing, p1_age, p1_seeds, p1_season, p1_z, p1_spots) (p2_paths, p2_water, p2_wall, p2_kind, p2_place, p2_facing, p2_age, p2_seeds, p2_season, p2_z, p2_spots), w_isKept, (t_bytes, t_length, t_sort, t_start, t_end, t_value), (h_numbers, h_bits, h_size), z.2)) hres) hP
        exact W.iret (v := q16.1) hx hb hr (fun t ht hW => ⟨congrArg (fun z => Outcome.returned (some (Value.int z.1))) hres, trivial, by rw [ht]; exact hP, hS.F ht⟩) hS.2.2 dX6_mend_53
    · have hf := (if_pos hc8).symm.trans hf
      refine lv_aload_n hx hb dX6_mend_14 rfl (lv_at hl 0 rfl) ?_
      refine lv_iconst (v := (0 : Int32)) hx hb dX6_mend_15 (by decide) ?_
      obtain ⟨q18, hq18, hf⟩ := bd_some hf
      refine kr_W (st1 := [.int q18.1]) (va_runV (As := [.int (0 : Int32)]) (rest := []) ⟨hx, hb, hml, hown, hts⟩ (ct_X6_finding l n g p0_paths p0_water p0_wall p0_kind p0_place p0_facing p0_age p0_seeds p0_season p0_z p0_spots p1_paths p1_water p1_wall p1_kind p1_place p1_facing p1_age p1_seeds p1_season p1_z p1_spots p2_paths p2_water p2_wall p2_kind p2_place p2_facing p2_age p2_seeds p2_season p2_z p2_spots t_bytes t_length t_sort t_start t_end t_value h_numbers h_bits h_size w_isKept w_told (0 : Int32) q18 hq18) (cwV 1 hts gX6_mend_X6_finding rfl rfl rfl hd_X6_finding ⟨Nat.le_of_ble_eq_true rfl, Nat.le_of_ble_eq_true rfl⟩) ⟨bl_C, va_recv hK hP (ci := 4) (q0 := 0) rfl q_sp, pr_C rfl hB hP hS⟩ rfl rfl hl.1 rfl (lv_room (Nat.le_of_ble_eq_true rfl)) dX6_mend_16 ⟨Nat.le_refl _, Nat.le_refl _⟩) hS rfl (fun hn19 H locs hP hS => ?_)
      have hP : va_P g.1 vwCl (cw g (pk3 (p0_paths, p0_water, p0_wall, p0_kind, p0_place, p0_facing, p0_age, p0_seeds, p0_season, p0_z, p0_spots) (p1_paths, p1_water, p1_wall, p1_kind, p1_place, p1_facing, p1_age, p1_seeds, p1_season, p1_z, p1_spots) (p2_paths, p2_water, p2_wall, p2_kind, p2_place, p2_facing, p2_age, p2_seeds, p2_season, p2_z, p2_spots), w_isKept, (t_bytes, t_length, t_sort, t_start, t_end, t_value), (h_numbers, h_bits, h_size), q18.2)) H := hP
      have hres : (q18.1, q18.2) = res := (Option.some.inj hf)
      have hP := w_eq (congrArg (fun z => cw g (pk3 (p0_paths, p0_water, p0_wall, p0_kind, p0_place, p0_facing, p0_age, p0_seeds, p0_season, p0_z, p0_spots) (p1_paths, p1_water, p1_wall, p1_kind, p1_place, p1_facing, p1_age, p1_seeds, p1_season, p1_z, p1_spots) (p2_paths, p2_water, p2_wall, p2_kind, p2_place, p2_facing, p2_age, p2_seeds, p2_season, p2_z, p2_spots), w_isKept, (t_bytes, t_length, t_sort, t_start, t_end, t_value), (h_numbers, h_bits, h_size), z.2)) hres) hP
      exact W.iret (v := q18.1) hx hb hr (fun t ht hW => ⟨congrArg (fun z => Outcome.returned (some (Value.int z.1))) hres, trivial, by rw [ht]; exact hP, hS.F ht⟩) hS.2.2 dX6_mend_19
set_option maxHeartbeats 4000000 in
set_option maxRecDepth 100000 in
theorem ct_X6_putAll (l : Launch) (n : Nat) (g : GC) (σ : CS) (q : Nat) (nn : Nat) (r_row : Nat → Int32) (hq : (cw g σ)[q]? = some (ga g q, cIA g nn r_row)) (q2 : Nat) (n2 : Nat) (r_vals : Nat → Int32) (hq2 : (cw g σ)[q2]? = some (ga g q2, cIA g n2 r_vals)) (hne : q ≠ q2) (res : (Nat → Int32)) (hf : fX6_putAll n nn n2 r_row r_vals = some res) : Met l yX6_putAll wsX6_putAll ({ frames := 1, cells := 0, slots := 0, locals := 64 }) (va_Pc [.ref (ga g q), .ref (ga g q2)] (cI g σ)) (qW none True g.1 (((cw g σ).set q (ga g q, cIA g nn res))) (gA g)) 0 0 (gA g) := by
  refine Met.ofW (cc := cX6_putAll) (maxL := 2) (ret := none) (by decide) rfl ?_
  intro p e s m args below meth c s₁ B hml hv
  obtain ⟨rfl, hI⟩ := hv
  have hx := B.exec
  have hb := B.bytes
  have hr := B.returns
  have hts := atoms_spec (ws := wsX6_putAll) B.pre
  have hown : s.vm.findClass RX6 = some m.cls := findClass_of_methodNamed B.named
  have hlocks := B.notSynchronized
  have hP := hI.1
  have hB := hI.2
  have hK := hB.1
  have hNW := hB.2.1
  have hS : va_S (gA g) s.heap s.heap [] := va_S.rf
  have hP : va_P g.1 vwCl (((cw g σ).set q (ga g q, cIA g nn r_row))) s.heap := w_eq (set_same hq).symm hP
  have hw0 := hts (.methodLink RX6 311 Lib.Math.min.name) (by decide +kernel)
  have hw1 := hts (.static Lib.Math.min.name) (by decide +kernel)
  have hw2 := hts (.initialized "java/lang/Math") (by decide +kernel)
  have hw3 := hts (.code Lib.Math.min.name Lib.Math.min.code 2 (some .int)) (by decide +kernel)
  have hw4 := hts (.methodLink RX6 316 arraycopyName) (by decide +kernel)
  have hw5 := hts (.native arraycopyName) (by decide +kernel)
  have hw6 := hts (.static arraycopyName) (by decide +kernel)
  have hw7 := hts (.initialized "java/lang/System") (by decide +kernel)
  have hl := lv_entry ([.ref (ga g q), .ref (ga g q2)]) (n := 2) (Nat.le_of_ble_eq_true rfl)
  rw [lg_entry_eq]
  generalize (lg_sl ([.ref (ga g q), .ref (ga g q2)]) ++ List.replicate (2 - (lg_sl ([.ref (ga g q), .ref (ga g q2)])).length) Slot.unset).toArray = ls at hl ⊢
  have hl : lv_has ls 2 [(0, .ref (ga g q)), (1, .ref (ga g q2))] := hl
  unfold fX6_putAll at hf
  refine lv_aload_n hx hb dX6_putAll_0 rfl (lv_at hl 1 rfl) ?_
  refine lv_iconst (v := (0 : Int32)) hx hb dX6_putAll_1 (by decide) ?_
  refine lv_aload_n hx hb dX6_putAll_2 rfl (lv_at hl 0 rfl) ?_
  refine lv_iconst (v := (0 : Int32)) hx hb dX6_putAll_3 (by decide) ?_
  refine lv_aload_n hx hb dX6_putAll_4 rfl (lv_at hl 1 rfl) ?_
  refine va_alen (v := (nI n2)) hx hb hK hP q2 0 (set_no _ hne hq2) rfl rfl dX6_putAll_5 ?_
  refine lv_aload_n hx hb dX6_putAll_6 rfl (lv_at hl 0 rfl) ?_
  refine va_alen (v := (nI nn)) hx hb hK hP q 0 (set_at _ hq) rfl rfl dX6_putAll_7 ?_
  refine va_mmin hx hb (hml.trans hl.1.symm) hown hw0 hw1 hw2 hw3 (Nat.le_of_ble_eq_true rfl) (Nat.le_of_ble_eq_true rfl) (Nat.le_of_ble_eq_true rfl) (Nat.le_of_ble_eq_true rfl) dX6_putAll_8 ?_
  obtain ⟨hg1, hf⟩ := gd_some hf
  obtain ⟨hg2, hf⟩ := gd_some hf
  obtain ⟨hg3, hf⟩ := gd_some hf
  refine va_copyi (f := r_vals) (g := r_row) (ty := .int) hx hb (hml.trans hl.1.symm) hown hw4 hw5 hw6 hw7 hK hP (cDs hB.2.2.1 _ _ _) hS q2 q 0 0 (set_no _ hne hq2) (set_at _ hq) rfl rfl rfl (by decide) (by decide) hg1 hg2 hg3 (fun _ _ => rfl) (Nat.le_of_ble_eq_true rfl) (Nat.le_of_ble_eq_true rfl) dX6_putAll_11 (fun H locs hP _ hS => ?_)
  have hP : va_P g.1 vwCl ((cw g σ).set q (ga g q, cIA g nn (va_cpy r_vals r_row (0 : Int32).toNatClampNeg (0 : Int32).toNatClampNeg (if (nI nn) < (nI n2) then (nI nn) else (nI n2)).toNatClampNeg))) H := w_eq (set_set2 _ _ _ _) hP
  have hres : (va_cpy r_vals r_row (0 : Int32).toNatClampNeg (0 : Int32).toNatClampNeg (if (nI nn) < (nI n2) then (nI nn) else (nI n2)).toNatClampNeg) = res := (Option.some.inj hf)
  have hP := w_eq (congrArg (fun z => ((cw g σ).set q (ga g q, cIA g nn z))) hres) hP
  exact W.vret hx hb hr (fun t ht hW => ⟨rfl, trivial, by rw [ht]; exact hP, hS.F ht⟩) hS.2.2 dX6_putAll_14
set_option maxHeartbeats 4000000 in
set_option maxRecDepth 100000 in
theorem ct_X3_mirror (l : Launch) (n : Nat) (g : GC) (S : PK → CS) (k : Nat) (hk : k < 3) (hL : zP k S) (k2 : Nat) (hk2 : k2 < 3) (hkk : k ≠ k2) (f_paths : Nat → Int32) (f_water : Int64) (f_wall : Int64) (f_kind : Nat → Int32) (f_place : Nat → Int32) (f_facing : Nat → Int32) (f_age : Nat → Int32) (f_seeds : Int32) (f_season : Int32) (f_z : Int32) (f_spots : Nat → Int32) (o_paths : Nat → Int32) (o_water : Int64) (o_wall : Int64) (o_kind : Nat → Int32) (o_place : Nat → Int32) (o_facing : Nat → Int32) (o_age : Nat → Int32) (o_seeds : Int32) (o_season : Int32) (o_z : Int32) (o_spots : Nat → Int32) (hQ : ∀ P, (S P).1 k2 = (o_paths, o_water, o_wall, o_kind, o_place, o_facing, o_age, o_seeds, o_season, o_z, o_spots)) (j : Nat) (hj : j < 8) (j2 : Nat) (hj2 : j2 < 8) (res : (Nat → Int32) × (Nat → Int32) × (Nat → Int32) × (Nat → Int32)) (hf : fX3_mirror n j j2 f_kind f_place f_facing f_age o_kind o_place o_facing o_age = some res) : Met l yX3_mirror wsX3_mirror ({ frames := 0, cells := 0, slots := 0, locals := 0 }) (va_Pc [.ref (ga g (25 + 8 * k + j)), .ref (ga g (25 + 8 * k2 + j2))] (cI g (S (f_paths, f_water, f_wall, f_kind, f_place, f_facing, f_age, f_seeds, f_season, f_z, f_spots)))) (qW none True g.1 (cw g (S (f_paths, f_water, f_wall, res.1, res.2.1, res.2.2.1, res.2.2.2, f_seeds, f_season, f_z, f_spots))) (gA g)) 0 0 (gA g) := by
  refine Met.ofW (cc := cX3_mirror) (maxL := 2) (ret := none) (by decide) rfl ?_
  intro p e s m args below meth c s₁ B hml hv
  obtain ⟨rfl, hI⟩ := hv
  have hx := B.exec
  have hb := B.bytes
  have hr := B.returns
  have hts := atoms_spec (ws := wsX3_mirror) B.pre
  have hown : s.vm.findClass RX3 = some m.cls := findClass_of_methodNamed B.named
  have hlocks := B.notSynchronized
  have hP := hI.1
  have hB := hI.2
  have hK := hB.1
  have hNW := hB.2.1
  have hS : va_S (gA g) s.heap s.heap [] := va_S.rf
  have hw0 := hts (.fieldLink RX3 9 "SownPaths$Seed" "kind" "I") (by decide +kernel)
  have hw1 := hts (.fieldLink RX3 15 "SownPaths$Seed" "place" "I") (by decide +kernel)
  have hw2 := hts (.fieldLink RX3 18 "SownPaths$Seed" "facing" "I") (by decide +kernel)
  have hw3 := hts (.fieldLink RX3 21 "SownPaths$Seed" "age" "I") (by decide +kernel)
  have iwX3 : ∀ w ∈ wsX30, w ∈ wsX3_mirror := fun w h => List.mem_cons_of_mem _ (List.mem_append_right _ h)
  have hl := lv_entry ([.ref (ga g (25 + 8 * k + j)), .ref (ga g (25 + 8 * k2 + j2))]) (n := 2) (Nat.le_of_ble_eq_true rfl)
  rw [lg_entry_eq]
  generalize (lg_sl ([.ref (ga g (25 + 8 * k + j)), .ref (ga g (25 + 8 * k2 + j2))]) ++ List.replicate (2 - (lg_sl ([.ref (ga g (25 + 8 * k + j)), .ref (ga g (25 + 8 * k2 + j2))])).length) Slot.unset).toArray = ls at hl ⊢
  have hl : lv_has ls 2 [(0, .ref (ga g (25 + 8 * k + j))), (1, .ref (ga g (25 + 8 * k2 + j2)))] := hl
  unfold fX3_mirror at hf
  refine lv_aload_n hx hb dX3_mirror_0 rfl (lv_at hl 0 rfl) ?_
  refine lv_aload_n hx hb dX3_mirror_1 rfl (lv_at hl 1 rfl) ?_
  refine va_get (D := g.1) (ci := 1) (v := .int (o_kind j2)) (C := RX3) (T := TX3) (N := 4) hx hb hts iwX3 hown hK hP (25 + 8 * k2 + j2) (e_sd hk2 hj2 (hQ _) (Q := (o_paths, o_water, o_wall, o_kind, o_place, o_facing, o_age, o_seeds, o_season, o_z, o_spots))) rfl 0 (by decide) hw0 (fun _ h9 => h9) rfl dX3_mirror_2 ?_
  refine va_put (D := g.1) (ci := 1) (v := .int (o_kind j2)) (ty := .int) (C := RX3) (T := TX3) (N := 4) hx hb hts iwX3 tyX3 tyX3_ok nmX3 hown hK hP (cD hB.2.2.1 _) hS (25 + 8 * k + j) (e_sd hk hj (hL.1 _) (Q := (f_paths, f_water, f_wall, f_kind, f_place, f_facing, f_age, f_seeds, f_season, f_z, f_spots))) rfl 0 (by decide) hw0 (fun _ h9 => h9) rfl (tyX3_ok 0 (by decide)) rfl rfl (Nat.le_of_ble_eq_true rfl) dX3_mirror_5 (fun H locs hP _ hS => ?_)
  have hP : va_P g.1 vwCl (cw g (S (f_paths, f_water, f_wall, (upd f_kind j (o_kind j2)), f_place, f_facing, f_age, f_seeds, f_season, f_z, f_spots))) H := w_eq (s_kind (S := S) (P := (f_paths, f_water, f_wall, f_kind, f_place, f_facing, f_age, f_seeds, f_season, f_z, f_spots)) (o_kind j2) hk hj hL) hP
  refine lv_aload_n hx hb dX3_mirror_8 rfl (lv_at hl 0 rfl) ?_
  refine lv_aload_n hx hb dX3_mirror_9 rfl (lv_at hl 1 rfl) ?_
  refine va_get (D := g.1) (ci := 1) (v := .int (o_place j2)) (C := RX3) (T := TX3) (N := 4) hx hb hts iwX3 hown hK hP (25 + 8 * k2 + j2) (e_sd hk2 hj2 (hQ _) (Q := (o_paths, o_water, o_wall, o_kind, o_place, o_facing, o_age, o_seeds, o_season, o_z, o_spots))) rfl 1 (by decide) hw1 (fun _ h9 => h9) rfl dX3_mirror_10 ?_
  refine va_put (D := g.1) (ci := 1) (v := .int (o_place j2)) (ty := .int) (C := RX3) (T := TX3) (N := 4) hx hb hts iwX3 tyX3 tyX3_ok nmX3 hown hK hP (cD hB.2.2.1 _) hS (25 + 8 * k + j) (e_sd hk hj (hL.1 _) (Q := (f_paths, f_water, f_wall, (upd f_kind j (o_kind j2)), f_place, f_facing, f_age, f_seeds, f_season, f_z, f_spots))) rfl 1 (by decide) hw1 (fun _ h9 => h9) rfl (tyX3_ok 1 (by decide)) rfl rfl (Nat.le_of_ble_eq_true rfl) dX3_mirror_13 (fun H locs hP _ hS => ?_)
  have hP : va_P g.1 vwCl (cw g (S (f_paths, f_water, f_wall, (upd f_kind j (o_kind j2)), (upd f_place j (o_place j2)), f_facing, f_age, f_seeds, f_season, f_z, f_spots))) H := w_eq (s_place (S := S) (P := (f_paths, f_water, f_wall, (upd f_kind j (o_kind j2)), f_place, f_facing, f_age, f_seeds, f_season, f_z, f_spots)) (o_place j2) hk hj hL) hP
  refine lv_aload_n hx hb dX3_mirror_16 rfl (lv_at hl 0 rfl) ?_
  refine lv_aload_n hx hb dX3_mirror_17 rfl (lv_at hl 1 rfl) ?_
  refine va_get (D := g.1) (ci := 1) (v := .int (o_facing j2)) (C := RX3) (T := TX3) (N := 4) hx hb hts iwX3 hown hK hP (25 + 8 * k2 + j2) (e_sd hk2 hj2 (hQ _) (Q := (o_paths, o_water, o_wall, o_kind, o_place, o_facing, o_age, o_seeds, o_season, o_z, o_spots))) rfl 2 (by decide) hw2 (fun _ h9 => h9) rfl dX3_mirror_18 ?_
  refine va_put (D := g.1) (ci := 1) (v := .int (o_facing j2)) (ty := .int) (C := RX3) (T := TX3) (N := 4) hx hb hts iwX3 tyX3 tyX3_ok nmX3 hown hK hP (cD hB.2.2.1 _) hS (25 + 8 * k + j) (e_sd hk hj (hL.1 _) (Q := (f_paths, f_water, f_wall, (upd f_kind j (o_kind j2)), (upd f_place j (o_place j2)), f_facing, f_age, f_seeds, f_season, f_z, f_spots))) rfl 2 (by decide) hw2 (fun _ h9 => h9) rfl (tyX3_ok 2 (by decide)) rfl rfl (Nat.le_of_ble_eq_true rfl) dX3_mirror_21 (fun H locs hP _ hS => ?_)
  have hP : va_P g.1 vwCl (cw g (S (f_paths, f_water, f_wall, (upd f_kind j (o_kind j2)), (upd f_place j (o_place j2)), (upd f_facing j (o_facing j2)), f_age, f_seeds, f_season, f_z, f_spots))) H := w_eq (s_facing (S := S) (P := (f_paths, f_water, f_wall, (upd f_kind j (o_kind j2)), (upd f_place j (o_place j2)), f_facing, f_age, f_seeds, f_season, f_z, f_spots)) (o_facing j2) hk hj hL) hP
  refine lv_aload_n hx hb dX3_mirror_24 rfl (lv_at hl 0 rfl) ?_
  refine lv_aload_n hx hb dX3_mirror_25 rfl (lv_at hl 1 rfl) ?_
  refine va_get (D := g.1) (ci := 1) (v := .int (o_age j2)) (C := RX3) (T := TX3) (N := 4) hx hb hts iwX3 hown hK hP (25 + 8 * k2 + j2) (e_sd hk2 hj2 (hQ _) (Q := (o_paths, o_water, o_wall, o_kind, o_place, o_facing, o_age, o_seeds, o_season, o_z, o_spots))) rfl 3 (by decide) hw3 (fun _ h9 => h9) rfl dX3_mirror_26 ?_
  refine va_put (D := g.1) (ci := 1) (v := .int (o_age j2)) (ty := .int) (C := RX3) (T := TX3) (N := 4) hx hb hts iwX3 tyX3 tyX3_ok nmX3 hown hK hP (cD hB.2.2.1 _) hS (25 + 8 * k + j) (e_sd hk hj (hL.1 _) (Q := (f_paths, f_water, f_wall, (upd f_kind j (o_kind j2)), (upd f_place j (o_place j2)), (upd f_facing j (o_facing j2)), f_age, f_seeds, f_season, f_z, f_spots))) rfl 3 (by decide) hw3 (fun _ h9 => h9) rfl (tyX3_ok 3 (by decide)) rfl rfl (Nat.le_of_ble_eq_true rfl) dX3_mirror_29 (fun H locs hP _ hS => ?_)
  have hP : va_P g.1 vwCl (cw g (S (f_paths, f_water, f_wall, (upd f_kind j (o_kind j2)), (upd f_place j (o_place j2)), (upd f_facing j (o_facing j2)), (upd f_age j (o_age j2)), f_seeds, f_season, f_z, f_spots))) H := w_eq (s_age (S := S) (P := (f_paths, f_water, f_wall, (upd f_kind j (o_kind j2)), (upd f_place j (o_place j2)), (upd f_facing j (o_facing j2)), f_age, f_seeds, f_season, f_z, f_spots)) (o_age j2) hk hj hL) hP
  have hres : ((upd f_kind j (o_kind j2)), (upd f_place j (o_place j2)), (upd f_facing j (o_facing j2)), (upd f_age j (o_age j2))) = res := (Option.some.inj hf)
  have hP := w_eq (congrArg (fun z => cw g (S (f_paths, f_water, f_wall, z.1, z.2.1, z.2.2.1, z.2.2.2, f_seeds, f_season, f_z, f_spots))) hres) hP
  exact W.vret hx hb hr (fun t ht hW => ⟨rfl, trivial, by rw [ht]; exact hP, hS.F ht⟩) hS.2.2 dX3_mirror_32
set_option maxHeartbeats 4000000 in
set_option maxRecDepth 100000 in
theorem ct_X2_copyFrom (l : Launch) (n : Nat) (g : GC) (S : PK → CS) (k : Nat) (hk : k < 3) (hL : zP k S) (k2 : Nat) (hk2 : k2 < 3) (hkk : k ≠ k2) (f_paths : Nat → Int32) (f_water : Int64) (f_wall : Int64) (f_kind : Nat → Int32) (f_place : Nat → Int32) (f_facing : Nat → Int32) (f_age : Nat → Int32) (f_seeds : Int32) (f_season : Int32) (f_z : Int32) (f_spots : Nat → Int32) (o_paths : Nat → Int32) (o_water : Int64) (o_wall : Int64) (o_kind : Nat → Int32) (o_place : Nat → Int32) (o_facing : Nat → Int32) (o_age : Nat → Int32) (o_seeds : Int32) (o_season : Int32) (o_z : Int32) (o_spots : Nat → Int32) (hQ : ∀ P, (S P).1 k2 = (o_paths, o_water, o_wall, o_kind, o_place, o_facing, o_age, o_seeds, o_season, o_z, o_spots)) (res : (Nat → Int32) × Int64 × Int64 × (Nat → Int32) × (Nat → Int32) × (Nat → Int32) × (Nat → Int32) × Int32 × Int32 × Int32 × (Nat → Int32)) (hf : fX2_copyFrom n f_paths f_water f_wall f_kind f_place f_facing f_age f_seeds f_season f_z f_spots o_paths o_water o_wall o_kind o_place o_facing o_age o_seeds o_season o_z o_spots = some res) : Met l yX2_copyFrom wsX2_copyFrom ({ frames := 2, cells := 0, slots := 0, locals := 85 }) (va_Pc [.ref (ga g (1 + k)), .ref (ga g (1 + k2))] (cI g (S (f_paths, f_water, f_wall, f_kind, f_place, f_facing, f_age, f_seeds, f_season, f_z, f_spots)))) (qW none True g.1 (cw g (S (res.1, res.2.1, res.2.2.1, res.2.2.2.1, res.2.2.2.2.1, res.2.2.2.2.2.1, res.2.2.2.2.2.2.1, res.2.2.2.2.2.2.2.1, res.2.2.2.2.2.2.2.2.1, res.2.2.2.2.2.2.2.2.2.1, res.2.2.2.2.2.2.2.2.2.2))) (gA g)) 0 0 (gA g) := by
  refine Met.ofW (cc := cX2_copyFrom) (maxL := 5) (ret := none) (by decide) rfl ?_
  intro p e s m args below meth c s₁ B hml hv
  obtain ⟨rfl, hI⟩ := hv
  have hx := B.exec
  have hb := B.bytes
  have hr := B.returns
  have hts := atoms_spec (ws := wsX2_copyFrom) B.pre
  have hown : s.vm.findClass RX2 = some m.cls := findClass_of_methodNamed B.named
  have hlocks := B.notSynchronized
  have hP := hI.1
  have hB := hI.2
  have hK := hB.1
  have hNW := hB.2.1
  have hS : va_S (gA g) s.heap s.heap [] := va_S.rf
  have hw0 := hts (.fieldLink RX2 9 "SownPaths$Park" "paths" "[I") (by decide +kernel)
  have hw1 := hts (.initialized RX6) (by decide +kernel)
  have hw2 := hts (.static yX6_putAll) (by decide +kernel)
  have hw3 := hts (.fieldLink RX2 19 "SownPaths$Park" "spots" "[I") (by decide +kernel)
  have hw4 := hts (.fieldLink RX2 33 "SownPaths$Park" "water" "J") (by decide +kernel)
  have hw5 := hts (.fieldLink RX2 37 "SownPaths$Park" "wall" "J") (by decide +kernel)
  have hw6 := hts (.fieldLink RX2 48 "SownPaths$Park" "seeds" "I") (by decide +kernel)
  have hw7 := hts (.fieldLink RX2 51 "SownPaths$Park" "season" "I") (by decide +kernel)
  have hw8 := hts (.fieldLink RX2 15 "SownPaths$Park" "z" "I") (by decide +kernel)
  have iwX2 : ∀ w ∈ wsX20, w ∈ wsX2_copyFrom := fun w h => List.mem_cons_of_mem _ (List.mem_append_left _ (List.mem_append_right _ h))
  have hl := lv_entry ([.ref (ga g (1 + k)), .ref (ga g (1 + k2))]) (n := 5) (Nat.le_of_ble_eq_true rfl)
  rw [lg_entry_eq]
  generalize (lg_sl ([.ref (ga g (1 + k)), .ref (ga g (1 + k2))]) ++ List.replicate (5 - (lg_sl ([.ref (ga g (1 + k)), .ref (ga g (1 + k2))])).length) Slot.unset).toArray = ls at hl ⊢
  have hl : lv_has ls 5 [(0, .ref (ga g (1 + k))), (1, .ref (ga g (1 + k2)))] := hl
  unfold fX2_copyFrom at hf
  refine lv_aload_n hx hb dX2_copyFrom_0 rfl (lv_at hl 0 rfl) ?_
  refine va_get (D := g.1) (ci := 0) (v := .ref (ga g (16 + k))) (C := RX2) (T := TX2) (N := 8) hx hb hts iwX2 hown hK hP (1 + k) (e_pk hk (hL.1 _) (Q := (f_paths, f_water, f_wall, f_kind, f_place, f_facing, f_age, f_seeds, f_season, f_z, f_spots))) rfl 0 (by decide) hw0 (fun _ h9 => h9) rfl dX2_copyFrom_1 ?_
  refine lv_aload_n hx hb dX2_copyFrom_4 rfl (lv_at hl 1 rfl) ?_
  refine va_get (D := g.1) (ci := 0) (v := .ref (ga g (16 + k2))) (C := RX2) (T := TX2) (N := 8) hx hb hts iwX2 hown hK hP (1 + k2) (e_pk hk2 (hQ _) (Q := (o_paths, o_water, o_wall, o_kind, o_place, o_facing, o_age, o_seeds, o_season, o_z, o_spots))) rfl 0 (by decide) hw0 (fun _ h9 => h9) rfl dX2_copyFrom_5 ?_
  obtain ⟨q1, hq1, hf⟩ := bd_some hf
  refine kr_W (st1 := []) (va_runSN (As := [.ref (ga g (16 + k)), .ref (ga g (16 + k2))]) (rest := []) ⟨hx, hb, hml, hown, hts⟩ (ct_X6_putAll l n g (S (f_paths, f_water, f_wall, f_kind, f_place, f_facing, f_age, f_seeds, f_season, f_z, f_spots)) (16 + k) 36 f_paths (e_pa hk (hL.1 _) (Q := (f_paths, f_water, f_wall, f_kind, f_place, f_facing, f_age, f_seeds, f_season, f_z, f_spots))) (16 + k2) 36 o_paths (e_pa hk2 (hQ _) (Q := (o_paths, o_water, o_wall, o_kind, o_place, o_facing, o_age, o_seeds, o_season, o_z, o_spots))) (fun h => hkk (Nat.add_left_cancel h)) q1 hq1) (⟨va_cnB 2 hts gX2_copyFrom_X6_putAll_n29 rfl rfl rfl (ml_X2_29 hNW) hw1 hn_X6_putAll ⟨Nat.le_of_ble_eq_true rfl, Nat.le_of_ble_eq_true rfl⟩, hw2, trivial⟩) ⟨bl_C, pr_C rfl hB hP hS⟩ rfl rfl hl.1 rfl (lv_room (Nat.le_of_ble_eq_true rfl)) dX2_copyFrom_8 ⟨Nat.le_refl _, Nat.le_refl _⟩) hS rfl (fun hn2 H locs hP hS => ?_)
  have hP : va_P g.1 vwCl (cw g (S (q1, f_water, f_wall, f_kind, f_place, f_facing, f_age, f_seeds, f_season, f_z, f_spots))) H := w_eq (s_paths (S := S) (P := (f_paths, f_water, f_wall, f_kind, f_place, f_facing, f_age, f_seeds, f_season, f_z, f_spots)) q1 hk hL) hP
  refine lv_aload_n hx hb dX2_copyFrom_11 rfl (lv_at hl 0 rfl) ?_
  refine va_get (D := g.1) (ci := 0) (v := .ref (ga g (22 + k))) (C := RX2) (T := TX2) (N := 8) hx hb hts iwX2 hown hK hP (1 + k) (e_pk hk (hL.1 _) (Q := (q1, f_water, f_wall, f_kind, f_place, f_facing, f_age, f_seeds, f_season, f_z, f_spots))) rfl 7 (by decide) hw3 (fun _ h9 => h9) rfl dX2_copyFrom_12 ?_
  refine lv_aload_n hx hb dX2_copyFrom_15 rfl (lv_at hl 1 rfl) ?_
  refine va_get (D := g.1) (ci := 0) (v := .ref (ga g (22 + k2))) (C := RX2) (T := TX2) (N := 8) hx hb hts iwX2 hown hK hP (1 + k2) (e_pk hk2 (hQ _) (Q := (o_paths, o_water, o_wall, o_kind, o_place, o_facing, o_age, o_seeds, o_season, o_z, o_spots))) rfl 7 (by decide) hw3 (fun _ h9 => h9) rfl dX2_copyFrom_16 ?_
  obtain ⟨q3, hq3, hf⟩ := bd_some hf
  refine kr_W (st1 := []) (va_runSN (As := [.ref (ga g (22 + k)), .ref (ga g (22 + k2))]) (rest := []) ⟨hx, hb, hml, hown, hts⟩ (ct_X6_putAll l n g (S (q1, f_water, f_wall, f_kind, f_place, f_facing, f_age, f_seeds, f_season, f_z, f_spots)) (22 + k) 10 f_spots (e_so hk (hL.1 _) (Q := (q1, f_water, f_wall, f_kind, f_place, f_facing, f_age, f_seeds, f_season, f_z, f_spots))) (22 + k2) 10 o_spots (e_so hk2 (hQ _) (Q := (o_paths, o_water, o_wall, o_kind, o_place, o_facing, o_age, o_seeds, o_season, o_z, o_spots))) (fun h => hkk (Nat.add_left_cancel h)) q3 hq3) (⟨va_cnB 2 hts gX2_copyFrom_X6_putAll_n29 rfl rfl rfl (ml_X2_29 hNW) hw1 hn_X6_putAll ⟨Nat.le_of_ble_eq_true rfl, Nat.le_of_ble_eq_true rfl⟩, hw2, trivial⟩) ⟨bl_C, pr_C rfl hB hP hS⟩ rfl rfl hl.1 rfl (lv_room (Nat.le_of_ble_eq_true rfl)) dX2_copyFrom_19 ⟨Nat.le_refl _, Nat.le_refl _⟩) hS rfl (fun hn4 H locs hP hS => ?_)
  have hP : va_P g.1 vwCl (cw g (S (q1, f_water, f_wall, f_kind, f_place, f_facing, f_age, f_seeds, f_season, f_z, q3))) H := w_eq (s_spots (S := S) (P := (q1, f_water, f_wall, f_kind, f_place, f_facing, f_age, f_seeds, f_season, f_z, f_spots)) q3 hk hL) hP
  refine lv_aload_n hx hb dX2_copyFrom_22 rfl (lv_at hl 0 rfl) ?_
  refine lv_aload_n hx hb dX2_copyFrom_23 rfl (lv_at hl 1 rfl) ?_
  refine va_get (D := g.1) (ci := 0) (v := .long o_water) (C := RX2) (T := TX2) (N := 8) hx hb hts iwX2 hown hK hP (1 + k2) (e_pk hk2 (hQ _) (Q := (o_paths, o_water, o_wall, o_kind, o_place, o_facing, o_age, o_seeds, o_season, o_z, o_spots))) rfl 1 (by decide) hw4 (fun _ h9 => h9) rfl dX2_copyFrom_24 ?_
  refine va_put (D := g.1) (ci := 0) (v := .long o_water) (ty := .long) (C := RX2) (T := TX2) (N := 8) hx hb hts iwX2 tyX2 tyX2_ok nmX2 hown hK hP (cD hB.2.2.1 _) hS (1 + k) (e_pk hk (hL.1 _) (Q := (q1, f_water, f_wall, f_kind, f_place, f_facing, f_age, f_seeds, f_season, f_z, q3))) rfl 1 (by decide) hw4 (fun _ h9 => h9) rfl (tyX2_ok 1 (by decide)) rfl rfl (Nat.le_of_ble_eq_true rfl) dX2_copyFrom_27 (fun H locs hP _ hS => ?_)
  have hP : va_P g.1 vwCl (cw g (S (q1, o_water, f_wall, f_kind, f_place, f_facing, f_age, f_seeds, f_season, f_z, q3))) H := w_eq (s_water (S := S) (P := (q1, f_water, f_wall, f_kind, f_place, f_facing, f_age, f_seeds, f_season, f_z, q3)) o_water hk hL) hP
  refine lv_aload_n hx hb dX2_copyFrom_30 rfl (lv_at hl 0 rfl) ?_
  refine lv_aload_n hx hb dX2_copyFrom_31 rfl (lv_at hl 1 rfl) ?_
  refine va_get (D := g.1) (ci := 0) (v := .long o_wall) (C := RX2) (T := TX2) (N := 8) hx hb hts iwX2 hown hK hP (1 + k2) (e_pk hk2 (hQ _) (Q := (o_paths, o_water, o_wall, o_kind, o_place, o_facing, o_age, o_seeds, o_season, o_z, o_spots))) rfl 2 (by decide) hw5 (fun _ h9 => h9) rfl dX2_copyFrom_32 ?_
  refine va_put (D := g.1) (ci := 0) (v := .long o_wall) (ty := .long) (C := RX2) (T := TX2) (N := 8) hx hb hts iwX2 tyX2 tyX2_ok nmX2 hown hK hP (cD hB.2.2.1 _) hS (1 + k) (e_pk hk (hL.1 _) (Q := (q1, o_water, f_wall, f_kind, f_place, f_facing, f_age, f_seeds, f_season, f_z, q3))) rfl 2 (by decide) hw5 (fun _ h9 => h9) rfl (tyX2_ok 2 (by decide)) rfl rfl (Nat.le_of_ble_eq_true rfl) dX2_copyFrom_35 (fun H locs hP _ hS => ?_)
  have hP : va_P g.1 vwCl (cw g (S (q1, o_water, o_wall, f_kind, f_place, f_facing, f_age, f_seeds, f_season, f_z, q3))) H := w_eq (s_wall (S := S) (P := (q1, o_water, f_wall, f_kind, f_place, f_facing, f_age, f_seeds, f_season, f_z, q3)) o_wall hk hL) hP
  refine lv_iconst (v := (0 : Int32)) hx hb dX2_copyFrom_38 (by decide) ?_
  refine lv_istore_n (lv' := [(2, .int (0 : Int32)), (0, .ref (ga g (1 + k))), (1, .ref (ga g (1 + k2)))]) hx hb dX2_copyFrom_39 rfl hl (by decide) rfl (fun ls hl => ?_)
  refine lp_run hf (fun s5 => ∀ (H : Heap) (locs : List Loc) (ls : Array Slot), va_P g.1 vwCl (cw g (S (q1, o_water, o_wall, s5.2.1, s5.2.2.1, s5.2.2.2.1, s5.2.2.2.2, f_seeds, f_season, f_z, q3))) H → va_S (gA g) s.heap H locs → lv_has ls 5 [(0, .ref (ga g (1 + k))), (1, .ref (ga g (1 + k2))), (2, .int s5.1)] → W p l e (headSpec wsX2_copyFrom ({ frames := 2, cells := 0, slots := 0, locals := 85 })).room s m ([.ref (ga g (1 + k)), .ref (ga g (1 + k2))] : List Value).toArray below meth c H locs 0 0 (MQ below (qW none True g.1 (cw g (S (res.1, res.2.1, res.2.2.1, res.2.2.2.1, res.2.2.2.2.1, res.2.2.2.2.2.1, res.2.2.2.2.2.2.1, res.2.2.2.2.2.2.2.1, res.2.2.2.2.2.2.2.2.1, res.2.2.2.2.2.2.2.2.2.1, res.2.2.2.2.2.2.2.2.2.2))) (gA g)) ([.ref (ga g (1 + k)), .ref (ga g (1 + k2))] : List Value).toArray s 0 0 (gA g)) (F0 m 40 ls [])) (fun v6 => ∀ (H : Heap) (locs : List Loc) (ls : Array Slot), va_P g.1 vwCl (cw g (S (q1, o_water, o_wall, v6.2.1, v6.2.2.1, v6.2.2.2.1, v6.2.2.2.2, f_seeds, f_season, f_z, q3))) H → va_S (gA g) s.heap H locs → lv_has ls 5 [(0, .ref (ga g (1 + k))), (1, .ref (ga g (1 + k2)))] → W p l e (headSpec wsX2_copyFrom ({ frames := 2, cells := 0, slots := 0, locals := 85 })).room s m ([.ref (ga g (1 + k)), .ref (ga g (1 + k2))] : List Value).toArray below meth c H locs 0 0 (MQ below (qW none True g.1 (cw g (S (res.1, res.2.1, res.2.2.1, res.2.2.2.1, res.2.2.2.2.1, res.2.2.2.2.2.1, res.2.2.2.2.2.2.1, res.2.2.2.2.2.2.2.1, res.2.2.2.2.2.2.2.2.1, res.2.2.2.2.2.2.2.2.2.1, res.2.2.2.2.2.2.2.2.2.2))) (gA g)) ([.ref (ga g (1 + k)), .ref (ga g (1 + k2))] : List Value).toArray s 0 0 (gA g)) (F0 m 80 ls [])) ?_ ?_ _ _ _ hP hS (lv_sub hl [1, 2, 0] rfl)
  · intro v6 hf H locs ls hP hS hl
    refine lv_aload_n hx hb dX2_copyFrom_80 rfl (lv_at hl 0 rfl) ?_
    refine lv_aload_n hx hb dX2_copyFrom_81 rfl (lv_at hl 1 rfl) ?_
    refine va_get (D := g.1) (ci := 0) (v := .int o_seeds) (C := RX2) (T := TX2) (N := 8) hx hb hts iwX2 hown hK hP (1 + k2) (e_pk hk2 (hQ _) (Q := (o_paths, o_water, o_wall, o_kind, o_place, o_facing, o_age, o_seeds, o_season, o_z, o_spots))) rfl 4 (by decide) hw6 (fun _ h9 => h9) rfl dX2_copyFrom_82 ?_
    refine va_put (D := g.1) (ci := 0) (v := .int o_seeds) (ty := .int) (C := RX2) (T := TX2) (N := 8) hx hb hts iwX2 tyX2 tyX2_ok nmX2 hown hK hP (cD hB.2.2.1 _) hS (1 + k) (e_pk hk (hL.1 _) (Q := (q1, o_water, o_wall, v6.2.1, v6.2.2.1, v6.2.2.2.1, v6.2.2.2.2, f_seeds, f_season, f_z, q3))) rfl 4 (by decide) hw6 (fun _ h9 => h9) rfl (tyX2_ok 4 (by decide)) rfl rfl (Nat.le_of_ble_eq_true rfl) dX2_copyFrom_85 (fun H locs hP _ hS => ?_)
    have hP : va_P g.1 vwCl (cw g (S (q1, o_water, o_wall, v6.2.1, v6.2.2.1, v6.2.2.2.1, v6.2.2.2.2, o_seeds, f_season, f_z, q3))) H := w_eq (s_seeds (S := S) (P := (q1, o_water, o_wall, v6.2.1, v6.2.2.1, v6.2.2.2.1, v6.2.2.2.2, f_seeds, f_season, f_z, q3)) o_seeds hk hL) hP
    refine lv_aload_n hx hb dX2_copyFrom_88 rfl (lv_at hl 0 rfl) ?_
    refine lv_aload_n hx hb dX2_copyFrom_89 rfl (lv_at hl 1 rfl) ?_
    refine va_get (D := g.1) (ci := 0) (v := .int o_season) (C := RX2) (T := TX2) (N := 8) hx hb hts iwX2 hown hK hP (1 + k2) (e_pk hk2 (hQ _) (Q := (o_paths, o_water, o_wall, o_kind, o_place, o_facing, o_age, o_seeds, o_season, o_z, o_spots))) rfl 5 (by decide) hw7 (fun _ h9 => h9) rfl dX2_copyFrom_90 ?_
    refine va_put (D := g.1) (ci := 0) (v := .int o_season) (ty := .int) (C := RX2) (T := TX2) (N := 8) hx hb hts iwX2 tyX2 tyX2_ok nmX2 hown hK hP (cD hB.2.2.1 _) hS (1 + k) (e_pk hk (hL.1 _) (Q := (q1, o_water, o_wall, v6.2.1, v6.2.2.1, v6.2.2.2.1, v6.2.2.2.2, o_seeds, f_season, f_z, q3))) rfl 5 (by decide) hw7 (fun _ h9 => h9) rfl (tyX2_ok 5 (by decide)) rfl rfl (Nat.le_of_ble_eq_true rfl) dX2_copyFrom_93 (fun H locs hP _ hS => ?_)
    have hP : va_P g.1 vwCl (cw g (S (q1, o_water, o_wall, v6.2.1, v6.2.2.1, v6.2.2.2.1, v6.2.2.2.2, o_seeds, o_season, f_z, q3))) H := w_eq (s_season (S := S) (P := (q1, o_water, o_wall, v6.2.1, v6.2.2.1, v6.2.2.2.1, v6.2.2.2.2, o_seeds, f_season, f_z, q3)) o_season hk hL) hP
    refine lv_aload_n hx hb dX2_copyFrom_96 rfl (lv_at hl 0 rfl) ?_
    refine lv_aload_n hx hb dX2_copyFrom_97 rfl (lv_at hl 1 rfl) ?_
    refine va_get (D := g.1) (ci := 0) (v := .int o_z) (C := RX2) (T := TX2) (N := 8) hx hb hts iwX2 hown hK hP (1 + k2) (e_pk hk2 (hQ _) (Q := (o_paths, o_water, o_wall, o_kind, o_place, o_facing, o_age, o_seeds, o_season, o_z, o_spots))) rfl 6 (by decide) hw8 (fun _ h9 => h9) rfl dX2_copyFrom_98 ?_
    refine va_put (D := g.1) (ci := 0) (v := .int o_z) (ty := .int) (C := RX2) (T := TX2) (N := 8) hx hb hts iwX2 tyX2 tyX2_ok nmX2 hown hK hP (cD hB.2.2.1 _) hS (1 + k) (e_pk hk (hL.1 _) (Q := (q1, o_water, o_wall, v6.2.1, v6.2.2.1, v6.2.2.2.1, v6.2.2.2.2, o_seeds, o_season, f_z, q3))) rfl 6 (by decide) hw8 (fun _ h9 => h9) rfl (tyX2_ok 6 (by decide)) rfl rfl (Nat.le_of_ble_eq_true rfl) dX2_copyFrom_101 (fun H locs hP _ hS => ?_)
    have hP : va_P g.1 vwCl (cw g (S (q1, o_water, o_wall, v6.2.1, v6.2.2.1, v6.2.2.2.1, v6.2.2.2.2, o_seeds, o_season, o_z, q3))) H := w_eq (s_z (S := S) (P := (q1, o_water, o_wall, v6.2.1, v6.2.2.1, v6.2.2.2.1, v6.2.2.2.2, o_seeds, o_season, f_z, q3)) o_z hk hL) hP
    have hres : (q1, o_water, o_wall, v6.2.1, v6.2.2.1, v6.2.2.2.1, v6.2.2.2.2, o_seeds, o_season, o_z, q3) = res := (Option.some.inj hf)
    have hP := w_eq (congrArg (fun z => cw g (S (z.1, z.2.1, z.2.2.1, z.2.2.2.1, z.2.2.2.2.1, z.2.2.2.2.2.1, z.2.2.2.2.2.2.1, z.2.2.2.2.2.2.2.1, z.2.2.2.2.2.2.2.2.1, z.2.2.2.2.2.2.2.2.2.1, z.2.2.2.2.2.2.2.2.2.2))) hres) hP
    exact W.vret hx hb hr (fun t ht hW => ⟨rfl, trivial, by rw [ht]; exact hP, hS.F ht⟩) hS.2.2 dX2_copyFrom_104
  · intro s5 r1 hf hback1 hexit1 H locs ls hP hS hl
    refine lv_iload_n hx hb dX2_copyFrom_40 rfl (lv_at hl 2 rfl) ?_
    refine lv_bipush (v := (8 : Int32)) hx hb dX2_copyFrom_41 (by decide) ?_
    refine lv_icmp_ge (tgt := 80) hx hb dX2_copyFrom_43 (by decide) (fun hc7 => ?_) (fun hc7 => ?_)
    · have hf := (if_pos hc7).symm.trans hf
      exact hexit1 (s5.1, s5.2.1, s5.2.2.1, s5.2.2.2.1, s5.2.2.2.2) (Option.some.inj hf).symm H locs ls hP hS (lv_sub hl [0, 1] rfl)
    · have hf := (if_neg hc7).symm.trans hf
      refine lv_aload_n hx hb dX2_copyFrom_46 rfl (lv_at hl 0 rfl) ?_
      refine lv_iload_n hx hb dX2_copyFrom_47 rfl (lv_at hl 2 rfl) ?_
      obtain ⟨q8, hq8, hf⟩ := bd_some hf
      refine kr_S (st1 := [va_rf (Option.map (fun j => ga g (25 + 8 * k + j)) q8)]) (va_runV (As := [.int s5.1]) (rest := []) ⟨hx, hb, hml, hown, hts⟩ (ct_X2_sownAt l n g (S (q1, o_water, o_wall, s5.2.1, s5.2.2.1, s5.2.2.2.1, s5.2.2.2.2, f_seeds, f_season, f_z, q3)) k hk q1 o_water o_wall s5.2.1 s5.2.2.1 s5.2.2.2.1 s5.2.2.2.2 f_seeds f_season f_z q3 (hL.1 _) s5.1 q8 hq8) (cwV 1 hts gX2_copyFrom_X2_sownAt rfl rfl rfl hd_X2_sownAt ⟨Nat.le_of_ble_eq_true rfl, Nat.le_of_ble_eq_true rfl⟩) ⟨bl_C, va_recv hK hP (ci := 0) (q0 := (1 + k)) rfl (e_pk hk (hL.1 _) (Q := (q1, o_water, o_wall, s5.2.1, s5.2.2.1, s5.2.2.2.1, s5.2.2.2.2, f_seeds, f_season, f_z, q3))), pr_C rfl hB hP hS⟩ rfl rfl hl.1 rfl (lv_room (Nat.le_of_ble_eq_true rfl)) dX2_copyFrom_48 ⟨Nat.le_refl _, Nat.le_refl _⟩) rfl (fun hn9 => ?_)
      rcases q8 with _ | j10
      · have hf := eo_n hf
        refine W.eq (g2 := F0 m 51 ls [.null]) rfl ?_
        refine lv_astore_nN (lv' := [(3, .null), (0, .ref (ga g (1 + k))), (1, .ref (ga g (1 + k2))), (2, .int s5.1)]) hx hb dX2_copyFrom_51 rfl hl (by decide) rfl (fun ls hl => ?_)
        refine lv_aload_n hx hb dX2_copyFrom_52 rfl (lv_at hl 2 rfl) ?_
        refine lv_iload_n hx hb dX2_copyFrom_53 rfl (lv_at hl 3 rfl) ?_
        obtain ⟨q12, hq12, hf⟩ := bd_some hf
        refine kr_S (st1 := [va_rf (Option.map (fun j => ga g (25 + 8 * k2 + j)) q12)]) (va_runV (As := [.int s5.1]) (rest := []) ⟨hx, hb, hml, hown, hts⟩ (ct_X2_sownAt l n g (S (q1, o_water, o_wall, s5.2.1, s5.2.2.1, s5.2.2.2.1, s5.2.2.2.2, f_seeds, f_season, f_z, q3)) k2 hk2 o_paths o_water o_wall o_kind o_place o_facing o_age o_seeds o_season o_z o_spots (hQ _) s5.1 q12 hq12) (cwV 1 hts gX2_copyFrom_X2_sownAt rfl rfl rfl hd_X2_sownAt ⟨Nat.le_of_ble_eq_true rfl, Nat.le_of_ble_eq_true rfl⟩) ⟨bl_C, va_recv hK hP (ci := 0) (q0 := (1 + k2)) rfl (e_pk hk2 (hQ _) (Q := (o_paths, o_water, o_wall, o_kind, o_place, o_facing, o_age, o_seeds, o_season, o_z, o_spots))), pr_C rfl hB hP hS⟩ rfl rfl hl.1 rfl (lv_room (Nat.le_of_ble_eq_true rfl)) dX2_copyFrom_54 ⟨Nat.le_refl _, Nat.le_refl _⟩) rfl (fun hn13 => ?_)
        rcases q12 with _ | j14
        · have hf := eo_n hf
          refine W.eq (g2 := F0 m 57 ls [.null]) rfl ?_
          refine lv_astoreN (lv' := [(4, .null), (3, .null), (0, .ref (ga g (1 + k))), (1, .ref (ga g (1 + k2))), (2, .int s5.1)]) hx hb dX2_copyFrom_57 hl (by decide) rfl (fun ls hl => ?_)
          refine lv_aload_nN hx hb dX2_copyFrom_59 rfl (lv_at hl 1 rfl) ?_
          refine lv_ifnullN (tgt := 74) hx hb dX2_copyFrom_60 (by decide) ?_
          refine lv_iinc (v := (s5.1 + (1 : Int32))) (lv' := [(2, .int (s5.1 + (1 : Int32))), (4, .null), (3, .null), (0, .ref (ga g (1 + k))), (1, .ref (ga g (1 + k2)))]) hx hb dX2_copyFrom_74 hl (k := 4) rfl (congrArg (fun y => s5.1 + y) (by decide : Int32.ofInt (1) = (1 : Int32))) (by decide) rfl (fun ls hl => ?_)
          refine lv_goto (tgt := 40) hx hb dX2_copyFrom_77 (by decide) ?_
          exact hback1 _ (Option.some.inj hf).symm H locs ls hP hS (lv_sub hl [3, 4, 0] rfl)
        · have hf := eo_s hf
          have hj15 := hn13 _ rfl
          refine W.eq (g2 := F0 m 57 ls [.ref (ga g (25 + 8 * k2 + j14))]) rfl ?_
          refine lv_astore (lv' := [(4, .ref (ga g (25 + 8 * k2 + j14))), (3, .null), (0, .ref (ga g (1 + k))), (1, .ref (ga g (1 + k2))), (2, .int s5.1)]) hx hb dX2_copyFrom_57 hl (by decide) rfl (fun ls hl => ?_)
          refine lv_aload_nN hx hb dX2_copyFrom_59 rfl (lv_at hl 1 rfl) ?_
          refine lv_ifnullN (tgt := 74) hx hb dX2_copyFrom_60 (by decide) ?_
          refine lv_iinc (v := (s5.1 + (1 : Int32))) (lv' := [(2, .int (s5.1 + (1 : Int32))), (4, .ref (ga g (25 + 8 * k2 + j14))), (3, .null), (0, .ref (ga g (1 + k))), (1, .ref (ga g (1 + k2)))]) hx hb dX2_copyFrom_74 hl (k := 4) rfl (congrArg (fun y => s5.1 + y) (by decide : Int32.ofInt (1) = (1 : Int32))) (by decide) rfl (fun ls hl => ?_)
          refine lv_goto (tgt := 40) hx hb dX2_copyFrom_77 (by decide) ?_
          exact hback1 _ (Option.some.inj hf).symm H locs ls hP hS (lv_sub hl [3, 4, 0] rfl)
      · have hf := eo_s hf
        have hj11 := hn9 _ rfl
        refine W.eq (g2 := F0 m 51 ls [.ref (ga g (25 + 8 * k + j10))]) rfl ?_
        refine lv_astore_n (lv' := [(3, .ref (ga g (25 + 8 * k + j10))), (0, .ref (ga g (1 + k))), (1, .ref (ga g (1 + k2))), (2, .int s5.1)]) hx hb dX2_copyFrom_51 rfl hl (by decide) rfl (fun ls hl => ?_)
        refine lv_aload_n hx hb dX2_copyFrom_52 rfl (lv_at hl 2 rfl) ?_
        refine lv_iload_n hx hb dX2_copyFrom_53 rfl (lv_at hl 3 rfl) ?_
        obtain ⟨q16, hq16, hf⟩ := bd_some hf
        refine kr_S (st1 := [va_rf (Option.map (fun j => ga g (25 + 8 * k2 + j)) q16)]) (va_runV (As := [.int s5.1]) (rest := []) ⟨hx, hb, hml, hown, hts⟩ (ct_X2_sownAt l n g (S (q1, o_water, o_wall, s5.2.1, s5.2.2.1, s5.2.2.2.1, s5.2.2.2.2, f_seeds, f_season, f_z, q3)) k2 hk2 o_paths o_water o_wall o_kind o_place o_facing o_age o_seeds o_season o_z o_spots (hQ _) s5.1 q16 hq16) (cwV 1 hts gX2_copyFrom_X2_sownAt rfl rfl rfl hd_X2_sownAt ⟨Nat.le_of_ble_eq_true rfl, Nat.le_of_ble_eq_true rfl⟩) ⟨bl_C, va_recv hK hP (ci := 0) (q0 := (1 + k2)) rfl (e_pk hk2 (hQ _) (Q := (o_paths, o_water, o_wall, o_kind, o_place, o_facing, o_age, o_seeds, o_season, o_z, o_spots))), pr_C rfl hB hP hS⟩ rfl rfl hl.1 rfl (lv_room (Nat.le_of_ble_eq_true rfl)) dX2_copyFrom_54 ⟨Nat.le_refl _, Nat.le_refl _⟩) rfl (fun hn17 => ?_)
        rcases q16 with _ | j18
        · have hf := eo_n hf
          refine W.eq (g2 := F0 m 57 ls [.null]) rfl ?_
          refine lv_astoreN (lv' := [(4, .null), (3, .ref (ga g (25 + 8 * k + j10))), (0, .ref (ga g (1 + k))), (1, .ref (ga g (1 + k2))), (2, .int s5.1)]) hx hb dX2_copyFrom_57 hl (by decide) rfl (fun ls hl => ?_)
          refine lv_aload_n hx hb dX2_copyFrom_59 rfl (lv_at hl 1 rfl) ?_
          refine lv_ifnull hx hb dX2_copyFrom_60 ?_
          refine lv_aloadN hx hb dX2_copyFrom_63 (lv_at hl 0 rfl) ?_
          refine lv_ifnullN (tgt := 74) hx hb dX2_copyFrom_65 (by decide) ?_
          refine lv_iinc (v := (s5.1 + (1 : Int32))) (lv' := [(2, .int (s5.1 + (1 : Int32))), (4, .null), (3, .ref (ga g (25 + 8 * k + j10))), (0, .ref (ga g (1 + k))), (1, .ref (ga g (1 + k2)))]) hx hb dX2_copyFrom_74 hl (k := 4) rfl (congrArg (fun y => s5.1 + y) (by decide : Int32.ofInt (1) = (1 : Int32))) (by decide) rfl (fun ls hl => ?_)
          refine lv_goto (tgt := 40) hx hb dX2_copyFrom_77 (by decide) ?_
          exact hback1 _ (Option.some.inj hf).symm H locs ls hP hS (lv_sub hl [3, 4, 0] rfl)
        · have hf := eo_s hf
          have hj19 := hn17 _ rfl
          refine W.eq (g2 := F0 m 57 ls [.ref (ga g (25 + 8 * k2 + j18))]) rfl ?_
          refine lv_astore (lv' := [(4, .ref (ga g (25 + 8 * k2 + j18))), (3, .ref (ga g (25 + 8 * k + j10))), (0, .ref (ga g (1 + k))), (1, .ref (ga g (1 + k2))), (2, .int s5.1)]) hx hb dX2_copyFrom_57 hl (by decide) rfl (fun ls hl => ?_)
          refine lv_aload_n hx hb dX2_copyFrom_59 rfl (lv_at hl 1 rfl) ?_
          refine lv_ifnull hx hb dX2_copyFrom_60 ?_
          refine lv_aload hx hb dX2_copyFrom_63 (lv_at hl 0 rfl) ?_
          refine lv_ifnull hx hb dX2_copyFrom_65 ?_
          refine lv_aload_n hx hb dX2_copyFrom_68 rfl (lv_at hl 1 rfl) ?_
          refine lv_aload hx hb dX2_copyFrom_69 (lv_at hl 0 rfl) ?_
          obtain ⟨q20, hq20, hf⟩ := bd_some hf
          refine kr_W (st1 := []) (va_runV (As := [.ref (ga g (25 + 8 * k2 + j18))]) (rest := []) ⟨hx, hb, hml, hown, hts⟩ (ct_X3_mirror l n g S k hk hL k2 hk2 hkk q1 o_water o_wall s5.2.1 s5.2.2.1 s5.2.2.2.1 s5.2.2.2.2 f_seeds f_season f_z q3 o_paths o_water o_wall o_kind o_place o_facing o_age o_seeds o_season o_z o_spots hQ j10 hj11 j18 hj19 q20 hq20) (cwV 1 hts gX2_copyFrom_X3_mirror rfl rfl rfl hd_X3_mirror ⟨Nat.le_of_ble_eq_true rfl, Nat.le_of_ble_eq_true rfl⟩) ⟨bl_C, va_recv hK hP (ci := 1) (q0 := (25 + 8 * k + j10)) rfl (e_sd hk hj11 (hL.1 _) (Q := (q1, o_water, o_wall, s5.2.1, s5.2.2.1, s5.2.2.2.1, s5.2.2.2.2, f_seeds, f_season, f_z, q3))), pr_C rfl hB hP hS⟩ rfl rfl hl.1 rfl (lv_room (Nat.le_of_ble_eq_true rfl)) dX2_copyFrom_71 ⟨Nat.le_refl _, Nat.le_refl _⟩) hS rfl (fun hn21 H locs hP hS => ?_)
          have hP : va_P g.1 vwCl (cw g (S (q1, o_water, o_wall, q20.1, q20.2.1, q20.2.2.1, q20.2.2.2, f_seeds, f_season, f_z, q3))) H := hP
          refine lv_iinc (v := (s5.1 + (1 : Int32))) (lv' := [(2, .int (s5.1 + (1 : Int32))), (4, .ref (ga g (25 + 8 * k2 + j18))), (3, .ref (ga g (25 + 8 * k + j10))), (0, .ref (ga g (1 + k))), (1, .ref (ga g (1 + k2)))]) hx hb dX2_copyFrom_74 hl (k := 4) rfl (congrArg (fun y => s5.1 + y) (by decide : Int32.ofInt (1) = (1 : Int32))) (by decide) rfl (fun ls hl => ?_)
          refine lv_goto (tgt := 40) hx hb dX2_copyFrom_77 (by decide) ?_
          exact hback1 _ (Option.some.inj hf).symm H locs ls hP hS (lv_sub hl [3, 4, 0] rfl)
set_option maxHeartbeats 4000000 in
set_option maxRecDepth 100000 in
theorem ct_X6_ahead (l : Launch) (n : Nat) (g : GC) (p0_paths : Nat → Int32) (p0_water : Int64) (p0_wall : Int64) (p0_kind : Nat → Int32) (p0_place : Nat → Int32) (p0_facing : Nat → Int32) (p0_age : Nat → Int32) (p0_seeds : Int32) (p0_season : Int32) (p0_z : Int32) (p0_spots : Nat → Int32) (p1_paths : Nat → Int32) (p1_water : Int64) (p1_wall : Int64) (p1_kind : Nat → Int32) (p1_place : Nat → Int32) (p1_facing : Nat → Int32) (p1_age : Nat → Int32) (p1_seeds : Int32) (p1_season : Int32) (p1_z : Int32) (p1_spots : Nat → Int32) (p2_paths : Nat → Int32) (p2_water : Int64) (p2_wall : Int64) (p2_kind : Nat → Int32) (p2_place : Nat → Int32) (p2_facing : Nat → Int32) (p2_age : Nat → Int32) (p2_seeds : Int32) (p2_season : Int32) (p2_z : Int32) (p2_spots : Nat → Int32) (t_bytes : Nat → Int32) (t_length : Int32) (t_sort : Int32) (t_start : Int32) (t_end : Int32) (t_value : Int32) (h_numbers : Nat → Nat → Int32) (h_bits : Nat → Int32) (h_size : Nat → Int32) (w_isKept : Int32) (w_told : Nat → Int32) (a1 : Int32) (a2 : Int32) (res : Int32 × (Nat → Int32) × Int64 × Int64 × (Nat → Int32) × (Nat → Int32) × (Nat → Int32) × (Nat → Int32) × Int32 × Int32 × Int32 × (Nat → Int32) × (Nat → Int32)) (hf : fX6_ahead n a1 a2 p0_paths p0_water p0_wall p0_kind p0_place p0_facing p0_age p0_seeds p0_season p0_z p0_spots p1_paths p1_water p1_wall p1_kind p1_place p1_facing p1_age p1_seeds p1_season p1_z p1_spots w_told = some res) : Met l yX6_ahead wsX6_ahead ({ frames := 6, cells := 0, slots := 0, locals := 139 }) (va_Pc [.ref (ga g 0), .int a1, .int a2] (cI g (pk3 (p0_paths, p0_water, p0_wall, p0_kind, p0_place, p0_facing, p0_age, p0_seeds, p0_season, p0_z, p0_spots) (p1_paths, p1_water, p1_wall, p1_kind, p1_place, p1_facing, p1_age, p1_seeds, p1_season, p1_z, p1_spots) (p2_paths, p2_water, p2_wall, p2_kind, p2_place, p2_facing, p2_age, p2_seeds, p2_season, p2_z, p2_spots), w_isKept, (t_bytes, t_length, t_sort, t_start, t_end, t_value), (h_numbers, h_bits, h_size), w_told))) (qW (some (.int res.1)) True g.1 (cw g (pk3 (p0_paths, p0_water, p0_wall, p0_kind, p0_place, p0_facing, p0_age, p0_seeds, p0_season, p0_z, p0_spots) (res.2.1, res.2.2.1, res.2.2.2.1, res.2.2.2.2.1, res.2.2.2.2.2.1, res.2.2.2.2.2.2.1, res.2.2.2.2.2.2.2.1, res.2.2.2.2.2.2.2.2.1, res.2.2.2.2.2.2.2.2.2.1, res.2.2.2.2.2.2.2.2.2.2.1, res.2.2.2.2.2.2.2.2.2.2.2.1) (p2_paths, p2_water, p2_wall, p2_kind, p2_place, p2_facing, p2_age, p2_seeds, p2_season, p2_z, p2_spots), w_isKept, (t_bytes, t_length, t_sort, t_start, t_end, t_value), (h_numbers, h_bits, h_size), res.2.2.2.2.2.2.2.2.2.2.2.2)) (gA g)) 0 0 (gA g) := by
  refine Met.ofW (cc := cX6_ahead) (maxL := 3) (ret := (some .int)) (by decide) rfl ?_
  intro p e s m args below meth c s₁ B hml hv
  obtain ⟨rfl, hI⟩ := hv
  have hx := B.exec
  have hb := B.bytes
  have hr := B.returns
  have hts := atoms_spec (ws := wsX6_ahead) B.pre
  have hown : s.vm.findClass RX6 = some m.cls := findClass_of_methodNamed B.named
  have hlocks := B.notSynchronized
  have hP := hI.1
  have hB := hI.2
  have hK := hB.1
  have hNW := hB.2.1
  have hS : va_S (gA g) s.heap s.heap [] := va_S.rf
  have hw0 := hts (.fieldLink RX6 16 "SownPaths" "trial" "LSownPaths$Park;") (by decide +kernel)
  have hw1 := hts (.fieldLink RX6 10 "SownPaths" "park" "LSownPaths$Park;") (by decide +kernel)
  have iwX6 : ∀ w ∈ wsX60, w ∈ wsX6_ahead := fun w h => List.mem_cons_of_mem _ (List.mem_append_left _ (List.mem_append_left _ (List.mem_append_right _ h)))
  have hl := lv_entry ([.ref (ga g 0), .int a1, .int a2]) (n := 3) (Nat.le_of_ble_eq_true rfl)
  rw [lg_entry_eq]
  generalize (lg_sl ([.ref (ga g 0), .int a1, .int a2]) ++ List.replicate (3 - (lg_sl ([.ref (ga g 0), .int a1, .int a2])).length) Slot.unset).toArray = ls at hl ⊢
  have hl : lv_has ls 3 [(0, .ref (ga g 0)), (1, .int a1), (2, .int a2)] := hl
  unfold fX6_ahead at hf
  refine lv_iload_n hx hb dX6_ahead_0 rfl (lv_at hl 1 rfl) ?_
  obtain ⟨q1, hq1, hf⟩ := bd_some hf
  refine kr_S (st1 := [.int q1]) (va_runS (As := [.int a1]) (rest := []) ⟨hx, hb, hml, hown, hts⟩ (ct_X6_isCell l n a1 q1 hq1) (va_cwS 1 hts gX6_ahead_X6_isCell rfl rfl rfl hn_X6_isCell ⟨Nat.le_of_ble_eq_true rfl, Nat.le_of_ble_eq_true rfl⟩) ⟨bl_N, pr_N rfl hNW⟩ rfl rfl hl.1 rfl (lv_room (Nat.le_of_ble_eq_true rfl)) dX6_ahead_1 ⟨Nat.le_refl _, Nat.le_refl _⟩) rfl (fun hn2 => ?_)
  refine lv_if_eq (tgt := 17) hx hb dX6_ahead_4 (by decide) (fun hc3 => ?_) (fun hc3 => ?_)
  · have hf := (if_pos hc3).symm.trans hf
    refine lv_aload_n hx hb dX6_ahead_17 rfl (lv_at hl 0 rfl) ?_
    refine lv_iconst (v := (0 : Int32)) hx hb dX6_ahead_18 (by decide) ?_
    obtain ⟨q4, hq4, hf⟩ := bd_some hf
    refine kr_W (st1 := [.int q4.1]) (va_runV (As := [.int (0 : Int32)]) (rest := []) ⟨hx, hb, hml, hown, hts⟩ (ct_X6_finding l n g p0_paths p0_water p0_wall p0_kind p0_place p0_facing p0_age p0_seeds p0_season p0_z p0_spots p1_paths p1_water p1_wall p1_kind p1_place p1_facing p1_age p1_seeds p1_season p1_z p1_spots p2_paths p2_water p2_wall p2_kind p2_place p2_facing p2_age p2_seeds p2_season p2_z p2_spots t_bytes t_length t_sort t_start t_end t_value h_numbers h_bits h_size w_isKept w_told (0 : Int32) q4 hq4) (cwV 1 hts gX6_ahead_X6_finding rfl rfl rfl hd_X6_finding ⟨Nat.le_of_ble_eq_true rfl, Nat.le_of_ble_eq_true rfl⟩) ⟨bl_C, va_recv hK hP (ci := 4) (q0 := 0) rfl q_sp, pr_C rfl hB hP hS⟩ rfl rfl hl.1 rfl (lv_room (Nat.le_of_ble_eq_true rfl)) dX6_ahead_19 ⟨Nat.le_refl _, Nat.le_refl _⟩) hS rfl (fun hn5 H locs hP hS => ?_)
    have hP : va_P g.1 vwCl (cw g (pk3 (p0_paths, p0_water, p0_wall, p0_kind, p0_place, p0_facing, p0_age, p0_seeds, p0_season, p0_z, p0_spots) (p1_paths, p1_water, p1_wall, p1_kind, p1_place, p1_facing, p1_age, p1_seeds, p1_season, p1_z, p1_spots) (p2_paths, p2_water, p2_wall, p2_kind, p2_place, p2_facing, p2_age, p2_seeds, p2_season, p2_z, p2_spots), w_isKept, (t_bytes, t_length, t_sort, t_start, t_end, t_value), (h_numbers, h_bits, h_size), q4.2)) H := hP
    have hres : (q4.1, p1_paths, p1_water, p1_wall, p1_kind, p1_place, p1_facing, p1_age, p1_seeds, p1_season, p1_z, p1_spots, q4.2) = res := (Option.some.inj hf)
    have hP := w_eq (congrArg (fun z => cw g (pk3 (p0_paths, p0_water, p0_wall, p0_kind, p0_place, p0_facing, p0_age, p0_seeds, p0_season, p0_z, p0_spots) (z.2.1, z.2.2.1, z.2.2.2.1, z.2.2.2.2.1, z.2.2.2.2.2.1, z.2.2.2.2.2.2.1, z.2.2.2.2.2.2.2.1, z.2.2.2.2.2.2.2.2.1, z.2.2.2.2.2.2.2.2.2.1, z.2.2.2.2.2.2.2.2.2.2.1, z.2.2.2.2.2.2.2.2.2.2.2.1) (p2_paths, p2_water, p2_wall, p2_kind, p2_place, p2_facing, p2_age, p2_seeds, p2_season, p2_z, p2_spots), w_isKept, (t_bytes, t_length, t_sort, t_start, t_end, t_value), (h_numbers, h_bits, h_size), z.2.2.2.2.2.2.2.2.2.2.2.2)) hres) hP
    exact W.iret (v := q4.1) hx hb hr (fun t ht hW => ⟨congrArg (fun z => Outcome.returned (some (Value.int z.1))) hres, trivial, by rw [ht]; exact hP, hS.F ht⟩) hS.2.2 dX6_ahead_22
  · have hf := (if_neg hc3).symm.trans hf
    refine lv_iload_n hx hb dX6_ahead_7 rfl (lv_at hl 2 rfl) ?_
    refine lv_iconst (v := (0 : Int32)) hx hb dX6_ahead_8 (by decide) ?_
    refine lv_bipush (v := (60 : Int32)) hx hb dX6_ahead_9 (by decide) ?_
    obtain ⟨q6, hq6, hf⟩ := bd_some hf
    refine kr_S (st1 := [.int q6]) (va_runS (As := [.int a2, .int (0 : Int32), .int (60 : Int32)]) (rest := []) ⟨hx, hb, hml, hown, hts⟩ (ct_X6_within l n a2 (0 : Int32) (60 : Int32) q6 hq6) (va_cwS 3 hts gX6_ahead_X6_within rfl rfl rfl hn_X6_within ⟨Nat.le_of_ble_eq_true rfl, Nat.le_of_ble_eq_true rfl⟩) ⟨bl_N, pr_N rfl hNW⟩ rfl rfl hl.1 rfl (lv_room (Nat.le_of_ble_eq_true rfl)) dX6_ahead_11 ⟨Nat.le_refl _, Nat.le_refl _⟩) rfl (fun hn7 => ?_)
    refine lv_if_ne (tgt := 23) hx hb dX6_ahead_14 (by decide) (fun hc8 => ?_) (fun hc8 => ?_)
    · have hf := (if_neg hc8).symm.trans hf
      refine lv_aload_n hx hb dX6_ahead_23 rfl (lv_at hl 0 rfl) ?_
      refine va_get (D := g.1) (ci := 4) (v := .ref (ga g (1 + 1))) (C := RX6) (T := TX6) (N := 7) hx hb hts iwX6 hown hK hP 0 q_sp rfl 1 (by decide) hw0 (fun _ h9 => h9) rfl dX6_ahead_24 ?_
      refine lv_aload_n hx hb dX6_ahead_27 rfl (lv_at hl 0 rfl) ?_
      refine va_get (D := g.1) (ci := 4) (v := .ref (ga g (1 + 0))) (C := RX6) (T := TX6) (N := 7) hx hb hts iwX6 hown hK hP 0 q_sp rfl 0 (by decide) hw1 (fun _ h9 => h9) rfl dX6_ahead_28 ?_
      obtain ⟨q9, hq9, hf⟩ := bd_some hf
      refine kr_W (st1 := []) (va_runV (As := [.ref (ga g (1 + 0))]) (rest := []) ⟨hx, hb, hml, hown, hts⟩ (ct_X2_copyFrom l n g (fun P => (pk3 (p0_paths, p0_water, p0_wall, p0_kind, p0_place, p0_facing, p0_age, p0_seeds, p0_season, p0_z, p0_spots) P (p2_paths, p2_water, p2_wall, p2_kind, p2_place, p2_facing, p2_age, p2_seeds, p2_season, p2_z, p2_spots), w_isKept, (t_bytes, t_length, t_sort, t_start, t_end, t_value), (h_numbers, h_bits, h_size), w_told)) 1 (by decide) zP1 0 (by decide) (by decide) p1_paths p1_water p1_wall p1_kind p1_place p1_facing p1_age p1_seeds p1_season p1_z p1_spots p0_paths p0_water p0_wall p0_kind p0_place p0_facing p0_age p0_seeds p0_season p0_z p0_spots (fun _ => rfl) q9 hq9) (cwV 1 hts gX6_ahead_X2_copyFrom rfl rfl rfl hd_X2_copyFrom ⟨Nat.le_of_ble_eq_true rfl, Nat.le_of_ble_eq_true rfl⟩) ⟨bl_C, va_recv hK hP (ci := 0) (q0 := (1 + 1)) rfl (e_pk (by decide) rfl (Q := (p1_paths, p1_water, p1_wall, p1_kind, p1_place, p1_facing, p1_age, p1_seeds, p1_season, p1_z, p1_spots))), pr_C rfl hB hP hS⟩ rfl rfl hl.1 rfl (lv_room (Nat.le_of_ble_eq_true rfl)) dX6_ahead_31 ⟨Nat.le_refl _, Nat.le_refl _⟩) hS rfl (fun hn10 H locs hP hS => ?_)
      have hP : va_P g.1 vwCl (cw g (pk3 (p0_paths, p0_water, p0_wall, p0_kind, p0_place, p0_facing, p0_age, p0_seeds, p0_season, p0_z, p0_spots) (q9.1, q9.2.1, q9.2.2.1, q9.2.2.2.1, q9.2.2.2.2.1, q9.2.2.2.2.2.1, q9.2.2.2.2.2.2.1, q9.2.2.2.2.2.2.2.1, q9.2.2.2.2.2.2.2.2.1, q9.2.2.2.2.2.2.2.2.2.1, q9.2.2.2.2.2.2.2.2.2.2) (p2_paths, p2_water, p2_wall, p2_kind, p2_place, p2_facing, p2_age, p2_seeds, p2_season, p2_z, p2_spots), w_isKept, (t_bytes, t_length, t_sort, t_start, t_end, t_value), (h_numbers, h_bits, h_size), w_told)) H := hP
      refine lv_aload_n hx hb dX6_ahead_34 rfl (lv_at hl 0 rfl) ?_
      refine va_get (D := g.1) (ci := 4) (v := .ref (ga g (1 + 1))) (C := RX6) (T := TX6) (N := 7) hx hb hts iwX6 hown hK hP 0 q_sp rfl 1 (by decide) hw0 (fun _ h9 => h9) rfl dX6_ahead_35 ?_
      refine lv_iload_n hx hb dX6_ahead_38 rfl (lv_at hl 2 rfl) ?_
      obtain ⟨q11, hq11, hf⟩ := bd_some hf
      refine kr_W (st1 := []) (va_runV (As := [.int a2]) (rest := []) ⟨hx, hb, hml, hown, hts⟩ (ct_X2_pass l n g (fun P => (pk3 (p0_paths, p0_water, p0_wall, p0_kind, p0_place, p0_facing, p0_age, p0_seeds, p0_season, p0_z, p0_spots) P (p2_paths, p2_water, p2_wall, p2_kind, p2_place, p2_facing, p2_age, p2_seeds, p2_season, p2_z, p2_spots), w_isKept, (t_bytes, t_length, t_sort, t_start, t_end, t_value), (h_numbers, h_bits, h_size), w_told)) 1 (by decide) zP1 q9.1 q9.2.1 q9.2.2.1 q9.2.2.2.1 q9.2.2.2.2.1 q9.2.2.2.2.2.1 q9.2.2.2.2.2.2.1 q9.2.2.2.2.2.2.2.1 q9.2.2.2.2.2.2.2.2.1 q9.2.2.2.2.2.2.2.2.2.1 q9.2.2.2.2.2.2.2.2.2.2 a2 q11 hq11) (cwV 1 hts gX6_ahead_X2_pass rfl rfl rfl hd_X2_pass ⟨Nat.le_of_ble_eq_true rfl, Nat.le_of_ble_eq_true rfl⟩) ⟨bl_C, va_recv hK hP (ci := 0) (q0 := (1 + 1)) rfl (e_pk (by decide) rfl (Q := (q9.1, q9.2.1, q9.2.2.1, q9.2.2.2.1, q9.2.2.2.2.1, q9.2.2.2.2.2.1, q9.2.2.2.2.2.2.1, q9.2.2.2.2.2.2.2.1, q9.2.2.2.2.2.2.2.2.1, q9.2.2.2.2.2.2.2.2.2.1, q9.2.2.2.2.2.2.2.2.2.2))), pr_C rfl hB hP hS⟩ rfl rfl hl.1 rfl (lv_room (Nat.le_of_ble_eq_true rfl)) dX6_ahead_39 ⟨Nat.le_refl _, Nat.le_refl _⟩) hS rfl (fun hn12 H locs hP hS => ?_)
      have hP : va_P g.1 vwCl (cw g (pk3 (p0_paths, p0_water, p0_wall, p0_kind, p0_place, p0_facing, p0_age, p0_seeds, p0_season, p0_z, p0_spots) (q11.1, q9.2.1, q9.2.2.1, q9.2.2.2.1, q11.2.1, q11.2.2.1, q11.2.2.2.1, q9.2.2.2.2.2.2.2.1, q11.2.2.2.2, q9.2.2.2.2.2.2.2.2.2.1, q9.2.2.2.2.2.2.2.2.2.2) (p2_paths, p2_water, p2_wall, p2_kind, p2_place, p2_facing, p2_age, p2_seeds, p2_season, p2_z, p2_spots), w_isKept, (t_bytes, t_length, t_sort, t_start, t_end, t_value), (h_numbers, h_bits, h_size), w_told)) H := hP
      refine lv_aload_n hx hb dX6_ahead_42 rfl (lv_at hl 0 rfl) ?_
      refine va_get (D := g.1) (ci := 4) (v := .ref (ga g (1 + 1))) (C := RX6) (T := TX6) (N := 7) hx hb hts iwX6 hown hK hP 0 q_sp rfl 1 (by decide) hw0 (fun _ h9 => h9) rfl dX6_ahead_43 ?_
      refine lv_iload_n hx hb dX6_ahead_46 rfl (lv_at hl 1 rfl) ?_
      obtain ⟨q13, hq13, hf⟩ := bd_some hf
      refine kr_S (st1 := [.int q13]) (va_runV (As := [.int a1]) (rest := []) ⟨hx, hb, hml, hown, hts⟩ (ct_X2_pathOf l n g (pk3 (p0_paths, p0_water, p0_wall, p0_kind, p0_place, p0_facing, p0_age, p0_seeds, p0_season, p0_z, p0_spots) (q11.1, q9.2.1, q9.2.2.1, q9.2.2.2.1, q11.2.1, q11.2.2.1, q11.2.2.2.1, q9.2.2.2.2.2.2.2.1, q11.2.2.2.2, q9.2.2.2.2.2.2.2.2.2.1, q9.2.2.2.2.2.2.2.2.2.2) (p2_paths, p2_water, p2_wall, p2_kind, p2_place, p2_facing, p2_age, p2_seeds, p2_season, p2_z, p2_spots), w_isKept, (t_bytes, t_length, t_sort, t_start, t_end, t_value), (h_numbers, h_bits, h_size), w_told) 1 (by decide) q11.1 q9.2.1 q9.2.2.1 q9.2.2.2.1 q11.2.1 q11.2.2.1 q11.2.2.2.1 q9.2.2.2.2.2.2.2.1 q11.2.2.2.2 q9.2.2.2.2.2.2.2.2.2.1 q9.2.2.2.2.2.2.2.2.2.2 rfl a1 q13 hq13) (cwV 1 hts gX6_ahead_X2_pathOf rfl rfl rfl hd_X2_pathOf ⟨Nat.le_of_ble_eq_true rfl, Nat.le_of_ble_eq_true rfl⟩) ⟨bl_C, va_recv hK hP (ci := 0) (q0 := (1 + 1)) rfl (e_pk (by decide) rfl (Q := (q11.1, q9.2.1, q9.2.2.1, q9.2.2.2.1, q11.2.1, q11.2.2.1, q11.2.2.2.1, q9.2.2.2.2.2.2.2.1, q11.2.2.2.2, q9.2.2.2.2.2.2.2.2.2.1, q9.2.2.2.2.2.2.2.2.2.2))), pr_C rfl hB hP hS⟩ rfl rfl hl.1 rfl (lv_room (Nat.le_of_ble_eq_true rfl)) dX6_ahead_47 ⟨Nat.le_refl _, Nat.le_refl _⟩) rfl (fun hn14 => ?_)
      have hres : (q13, q11.1, q9.2.1, q9.2.2.1, q9.2.2.2.1, q11.2.1, q11.2.2.1, q11.2.2.2.1, q9.2.2.2.2.2.2.2.1, q11.2.2.2.2, q9.2.2.2.2.2.2.2.2.2.1, q9.2.2.2.2.2.2.2.2.2.2, w_told) = res := (Option.some.inj hf)
      have hP := w_eq (congrArg (fun z => cw g (pk3 (p0_paths, p0_water, p0_wall, p0_kind, p0_place, p0_facing, p0_age, p0_seeds, p0_season, p0_z, p0_spots) (z.2.1, z.2.2.1, z.2.2.2.1, z.2.2.2.2.1, z.2.2.2.2.2.1, z.2.2.2.2.2.2.1, z.2.2.2.2.2.2.2.1, z.2.2.2.2.2.2.2.2.1, z.2.2.2.2.2.2.2.2.2.1, z.2.2.2.2.2.2.2.2.2.2.1, z.2.2.2.2.2.2.2.2.2.2.2.1) (p2_paths, p2_water, p2_wall, p2_kind, p2_place, p2_facing, p2_age, p2_seeds, p2_season, p2_z, p2_spots), w_isKept, (t_bytes, t_length, t_sort, t_start, t_end, t_value), (h_numbers, h_bits, h_size), z.2.2.2.2.2.2.2.2.2.2.2.2)) hres) hP
      exact W.iret (v := q13) hx hb hr (fun t ht hW => ⟨congrArg (fun z => Outcome.returned (some (Value.int z.1))) hres, trivial, by rw [ht]; exact hP, hS.F ht⟩) hS.2.2 dX6_ahead_50
    · have hf := (if_pos hc8).symm.trans hf
      refine lv_aload_n hx hb dX6_ahead_17 rfl (lv_at hl 0 rfl) ?_
      refine lv_iconst (v := (0 : Int32)) hx hb dX6_ahead_18 (by decide) ?_
      obtain ⟨q15, hq15, hf⟩ := bd_some hf
      refine kr_W (st1 := [.int q15.1]) (va_runV (As := [.int (0 : Int32)]) (rest := []) ⟨hx, hb, hml, hown, hts⟩ (ct_X6_finding l n g p0_paths p0_water p0_wall p0_kind p0_place p0_facing p0_age p0_seeds p0_season p0_z p0_spots p1_paths p1_water p1_wall p1_kind p1_place p1_facing p1_age p1_seeds p1_season p1_z p1_spots p2_paths p2_water p2_wall p2_kind p2_place p2_facing p2_age p2_seeds p2_season p2_z p2_spots t_bytes t_length t_sort t_start t_end t_value h_numbers h_bits h_size w_isKept w_told (0 : Int32) q15 hq15) (cwV 1 hts gX6_ahead_X6_finding rfl rfl rfl hd_X6_finding ⟨Nat.le_of_ble_eq_true rfl, Nat.le_of_ble_eq_true rfl⟩) ⟨bl_C, va_recv hK hP (ci := 4) (q0 := 0) rfl q_sp, pr_C rfl hB hP hS⟩ rfl rfl hl.1 rfl (lv_room (Nat.le_of_ble_eq_true rfl)) dX6_ahead_19 ⟨Nat.le_refl _, Nat.le_refl _⟩) hS rfl (fun hn16 H locs hP hS => ?_)
      have hP : va_P g.1 vwCl (cw g (pk3 (p0_paths, p0_water, p0_wall, p0_kind, p0_place, p0_facing, p0_age, p0_seeds, p0_season, p0_z, p0_spots) (p1_paths, p1_water, p1_wall, p1_kind, p1_place, p1_facing, p1_age, p1_seeds, p1_season, p1_z, p1_spots) (p2_paths, p2_water, p2_wall, p2_kind, p2_place, p2_facing, p2_age, p2_seeds, p2_season, p2_z, p2_spots), w_isKept, (t_bytes, t_length, t_sort, t_start, t_end, t_value), (h_numbers, h_bits, h_size), q15.2)) H := hP
      have hres : (q15.1, p1_paths, p1_water, p1_wall, p1_kind, p1_place, p1_facing, p1_age, p1_seeds, p1_season, p1_z, p1_spots, q15.2) = res := (Option.some.inj hf)
      have hP := w_eq (congrArg (fun z => cw g (pk3 (p0_paths, p0_water, p0_wall, p0_kind, p0_place, p0_facing, p0_age, p0_seeds, p0_season, p0_z, p0_spots) (z.2.1, z.2.2.1, z.2.2.2.1, z.2.2.2.2.1, z.2.2.2.2.2.1, z.2.2.2.2.2.2.1, z.2.2.2.2.2.2.2.1, z.2.2.2.2.2.2.2.2.1, z.2.2.2.2.2.2.2.2.2.1, z.2.2.2.2.2.2.2.2.2.2.1, z.2.2.2.2.2.2.2.2.2.2.2.1) (p2_paths, p2_water, p2_wall, p2_kind, p2_place, p2_facing, p2_age, p2_seeds, p2_season, p2_z, p2_spots), w_isKept, (t_bytes, t_length, t_sort, t_start, t_end, t_value), (h_numbers, h_bits, h_size), z.2.2.2.2.2.2.2.2.2.2.2.2)) hres) hP
      exact W.iret (v := q15.1) hx hb hr (fun t ht hW => ⟨congrArg (fun z => Outcome.returned (some (Value.int z.1))) hres, trivial, by rw [ht]; exact hP, hS.F ht⟩) hS.2.2 dX6_ahead_22
