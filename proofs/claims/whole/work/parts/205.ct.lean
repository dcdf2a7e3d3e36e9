/-! CONTRACTS, by program -/
set_option maxHeartbeats 4000000 in
set_option maxRecDepth 100000 in
theorem ct_X6_trialGoesAsTold (l : Launch) (n : Nat) (g : GC) (p0_paths : Nat → Int32) (p0_water : Int64) (p0_wall : Int64) (p0_kind : Nat → Int32) (p0_place : Nat → Int32) (p0_facing : Nat → Int32) (p0_age : Nat → Int32) (p0_seeds : Int32) (p0_season : Int32) (p0_z : Int32) (p0_spots : Nat → Int32) (p1_paths : Nat → Int32) (p1_water : Int64) (p1_wall : Int64) (p1_kind : Nat → Int32) (p1_place : Nat → Int32) (p1_facing : Nat → Int32) (p1_age : Nat → Int32) (p1_seeds : Int32) (p1_season : Int32) (p1_z : Int32) (p1_spots : Nat → Int32) (p2_paths : Nat → Int32) (p2_water : Int64) (p2_wall : Int64) (p2_kind : Nat → Int32) (p2_place : Nat → Int32) (p2_facing : Nat → Int32) (p2_age : Nat → Int32) (p2_seeds : Int32) (p2_season : Int32) (p2_z : Int32) (p2_spots : Nat → Int32) (t_bytes : Nat → Int32) (t_length : Int32) (t_sort : Int32) (t_start : Int32) (t_end : Int32) (t_value : Int32) (h_numbers : Nat → Nat → Int32) (h_bits : Nat → Int32) (h_size : Nat → Int32) (w_isKept : Int32) (w_told : Nat → Int32) (j : Nat) (hj : j < 4) (a2 : Int32) (res : Int32 × (Nat → Int32) × (Nat → Int32) × (Nat → Int32) × (Nat → Int32) × Int32) (hf : fX6_trialGoesAsTold n j a2 p1_paths p1_water p1_wall p1_kind p1_place p1_facing p1_age p1_seeds p1_season h_numbers h_size = some res) : Met l yX6_trialGoesAsTold wsX6_trialGoesAsTold ({ frames := 6, cells := 0, slots := 0, locals := 139 }) (va_Pc [.ref (ga g 0), .ref (ga g (8 + j)), .int a2] (cI g (pk3 (p0_paths, p0_water, p0_wall, p0_kind, p0_place, p0_facing, p0_age, p0_seeds, p0_season, p0_z, p0_spots) (p1_paths, p1_water, p1_wall, p1_kind, p1_place, p1_facing, p1_age, p1_seeds, p1_season, p1_z, p1_spots) (p2_paths, p2_water, p2_wall, p2_kind, p2_place, p2_facing, p2_age, p2_seeds, p2_season, p2_z, p2_spots), w_isKept, (t_bytes, t_length, t_sort, t_start, t_end, t_value), (h_numbers, h_bits, h_size), w_told))) (qW (some (.int res.1)) (narrow .boolean (.int res.1) = .int res.1) g.1 (cw g (pk3 (p0_paths, p0_water, p0_wall, p0_kind, p0_place, p0_facing, p0_age, p0_seeds, p0_season, p0_z, p0_spots) (res.2.1, p1_water, p1_wall, p1_kind, res.2.2.1, res.2.2.2.1, res.2.2.2.2.1, p1_seeds, res.2.2.2.2.2, p1_z, p1_spots) (p2_paths, p2_water, p2_wall, p2_kind, p2_place, p2_facing, p2_age, p2_seeds, p2_season, p2_z, p2_spots), w_isKept, (t_bytes, t_length, t_sort, t_start, t_end, t_value), (h_numbers, h_bits, h_size), w_told)) (gA g)) 0 0 (gA g) := by
  refine Met.ofW (cc := cX6_trialGoesAsTold) (maxL := 5) (ret := (some .boolean)) (by decide) rfl ?_
  intro p e s m args below meth c s₁ B hml hv
  obtain ⟨rfl, hI⟩ := hv
  have hx := B.exec
  have hb := B.bytes
  have hr := B.returns
  have hts := atoms_spec (ws := wsX6_trialGoesAsTold) B.pre
  have hown : s.vm.findClass RX6 = some m.cls := findClass_of_methodNamed B.named
  have hlocks := B.notSynchronized
  have hP := hI.1
  have hB := hI.2
  have hK := hB.1
  have hNW := hB.2.1
  have hS : va_S (gA g) s.heap s.heap [] := va_S.rf
  have hw0 := hts (.fieldLink RX6 16 "SownPaths" "trial" "LSownPaths$Park;") (by decide +kernel)
  have iwX4 : ∀ w ∈ wsX40, w ∈ wsX6_trialGoesAsTold := fun w h => List.mem_cons_of_mem _ (List.mem_append_left _ (List.mem_append_left _ (List.mem_append_left _ (List.mem_append_right _ h))))
  have iwX6 : ∀ w ∈ wsX60, w ∈ wsX6_trialGoesAsTold := fun w h => List.mem_cons_of_mem _ (List.mem_append_left _ (List.mem_append_left _ (List.mem_append_right _ h)))
  have hl := lv_entry ([.ref (ga g 0), .ref (ga g (8 + j)), .int a2]) (n := 5) (Nat.le_of_ble_eq_true rfl)
  rw [lg_entry_eq]
  generalize (lg_sl ([.ref (ga g 0), .ref (ga g (8 + j)), .int a2]) ++ List.replicate (5 - (lg_sl ([.ref (ga g 0), .ref (ga g (8 + j)), .int a2])).length) Slot.unset).toArray = ls at hl ⊢
  have hl : lv_has ls 5 [(0, .ref (ga g 0)), (1, .ref (ga g (8 + j))), (2, .int a2)] := hl
  unfold fX6_trialGoesAsTold at hf
  refine lv_iconst (v := (0 : Int32)) hx hb dX6_trialGoesAsTold_0 (by decide) ?_
  refine lv_istore_n (lv' := [(3, .int (0 : Int32)), (0, .ref (ga g 0)), (1, .ref (ga g (8 + j))), (2, .int a2)]) hx hb dX6_trialGoesAsTold_1 rfl hl (by decide) rfl (fun ls hl => ?_)
  refine lp_run hf (fun s1 => ∀ (H : Heap) (locs : List Loc) (ls : Array Slot), va_P g.1 vwCl (cw g (pk3 (p0_paths, p0_water, p0_wall, p0_kind, p0_place, p0_facing, p0_age, p0_seeds, p0_season, p0_z, p0_spots) (s1.2.1, p1_water, p1_wall, p1_kind, s1.2.2.1, s1.2.2.2.1, s1.2.2.2.2.1, p1_seeds, s1.2.2.2.2.2, p1_z, p1_spots) (p2_paths, p2_water, p2_wall, p2_kind, p2_place, p2_facing, p2_age, p2_seeds, p2_season, p2_z, p2_spots), w_isKept, (t_bytes, t_length, t_sort, t_start, t_end, t_value), (h_numbers, h_bits, h_size), w_told)) H → va_S (gA g) s.heap H locs → lv_has ls 5 [(0, .ref (ga g 0)), (1, .ref (ga g (8 + j))), (2, .int a2), (3, .int s1.1)] → W p l e (headSpec wsX6_trialGoesAsTold ({ frames := 6, cells := 0, slots := 0, locals := 139 })).room s m ([.ref (ga g 0), .ref (ga g (8 + j)), .int a2] : List Value).toArray below meth c H locs 0 0 (MQ below (qW (some (.int res.1)) (narrow .boolean (.int res.1) = .int res.1) g.1 (cw g (pk3 (p0_paths, p0_water, p0_wall, p0_kind, p0_place, p0_facing, p0_age, p0_seeds, p0_season, p0_z, p0_spots) (res.2.1, p1_water, p1_wall, p1_kind, res.2.2.1, res.2.2.2.1, res.2.2.2.2.1, p1_seeds, res.2.2.2.2.2, p1_z, p1_spots) (p2_paths, p2_water, p2_wall, p2_kind, p2_place, p2_facing, p2_age, p2_seeds, p2_season, p2_z, p2_spots), w_isKept, (t_bytes, t_length, t_sort, t_start, t_end, t_value), (h_numbers, h_bits, h_size), w_told)) (gA g)) ([.ref (ga g 0), .ref (ga g (8 + j)), .int a2] : List Value).toArray s 0 0 (gA g)) (F0 m 2 ls [])) (fun v => Sum.elim (fun v2 => ∀ (H : Heap) (locs : List Loc) (ls : Array Slot), va_P g.1 vwCl (cw g (pk3 (p0_paths, p0_water, p0_wall, p0_kind, p0_place, p0_facing, p0_age, p0_seeds, p0_season, p0_z, p0_spots) (v2.2.1, p1_water, p1_wall, p1_kind, v2.2.2.1, v2.2.2.2.1, v2.2.2.2.2.1, p1_seeds, v2.2.2.2.2.2, p1_z, p1_spots) (p2_paths, p2_water, p2_wall, p2_kind, p2_place, p2_facing, p2_age, p2_seeds, p2_season, p2_z, p2_spots), w_isKept, (t_bytes, t_length, t_sort, t_start, t_end, t_value), (h_numbers, h_bits, h_size), w_told)) H → va_S (gA g) s.heap H locs → lv_has ls 5 [] → W p l e (headSpec wsX6_trialGoesAsTold ({ frames := 6, cells := 0, slots := 0, locals := 139 })).room s m ([.ref (ga g 0), .ref (ga g (8 + j)), .int a2] : List Value).toArray below meth c H locs 0 0 (MQ below (qW (some (.int res.1)) (narrow .boolean (.int res.1) = .int res.1) g.1 (cw g (pk3 (p0_paths, p0_water, p0_wall, p0_kind, p0_place, p0_facing, p0_age, p0_seeds, p0_season, p0_z, p0_spots) (res.2.1, p1_water, p1_wall, p1_kind, res.2.2.1, res.2.2.2.1, res.2.2.2.2.1, p1_seeds, res.2.2.2.2.2, p1_z, p1_spots) (p2_paths, p2_water, p2_wall, p2_kind, p2_place, p2_facing, p2_age, p2_seeds, p2_season, p2_z, p2_spots), w_isKept, (t_bytes, t_length, t_sort, t_start, t_end, t_value), (h_numbers, h_bits, h_size), w_told)) (gA g)) ([.ref (ga g 0), .ref (ga g (8 + j)), .int a2] : List Value).toArray s 0 0 (gA g)) (F0 m 56 ls [])) (fun x => x = res) v) ?_ ?_ _ _ _ hP hS (lv_sub hl [1, 2, 3, 0] rfl)
  · intro v2 hf
    rcases v2 with v2 | v2
    · have hf := el_l hf
      intro H locs ls hP hS hl
      refine lv_iconst (v := (1 : Int32)) hx hb dX6_trialGoesAsTold_56 (by decide) ?_
      have hres : ((1 : Int32), v2.2.1, v2.2.2.1, v2.2.2.2.1, v2.2.2.2.2.1, v2.2.2.2.2.2) = res := (Option.some.inj hf)
      have hnr : narrow .boolean (.int (1 : Int32)) = .int (1 : Int32) := rfl
      have hP := w_eq (congrArg (fun z => cw g (pk3 (p0_paths, p0_water, p0_wall, p0_kind, p0_place, p0_facing, p0_age, p0_seeds, p0_season, p0_z, p0_spots) (z.2.1, p1_water, p1_wall, p1_kind, z.2.2.1, z.2.2.2.1, z.2.2.2.2.1, p1_seeds, z.2.2.2.2.2, p1_z, p1_spots) (p2_paths, p2_water, p2_wall, p2_kind, p2_place, p2_facing, p2_age, p2_seeds, p2_season, p2_z, p2_spots), w_isKept, (t_bytes, t_length, t_sort, t_start, t_end, t_value), (h_numbers, h_bits, h_size), w_told)) hres) hP
      exact W.zret (v := (1 : Int32)) hx hb hr hnr (fun t ht hW => ⟨congrArg (fun z => Outcome.returned (some (Value.int z.1))) hres, Eq.mp (congrArg (fun z => narrow .boolean (.int z.1) = .int z.1) hres) hnr, by rw [ht]; exact hP, hS.F ht⟩) hS.2.2 dX6_trialGoesAsTold_57
    · exact Option.some.inj hf
  · intro s1 r1 hf hback1 hexit1 H locs ls hP hS hl
    refine lv_iload_n hx hb dX6_trialGoesAsTold_2 rfl (lv_at hl 3 rfl) ?_
    refine lv_aload_n hx hb dX6_trialGoesAsTold_3 rfl (lv_at hl 1 rfl) ?_
    refine va_getN (D := g.1) (ci := 2) (v := .int (h_size j)) (C := RX4) (T := TX4) (N := 3) hx hb hts iwX4 hown hK hP (8 + j) (e_sh hj rfl (T := (h_numbers, h_bits, h_size))) rfl 2 (by decide) (nf_X6_280 hNW) (fun _ h9 => h9) rfl dX6_trialGoesAsTold_4 ?_
    refine lv_icmp_ge (tgt := 56) hx hb dX6_trialGoesAsTold_7 (by decide) (fun hc3 => ?_) (fun hc3 => ?_)
    · have hf := (if_pos hc3).symm.trans hf
      exact hexit1 (.inl (s1.1, s1.2.1, s1.2.2.1, s1.2.2.2.1, s1.2.2.2.2.1, s1.2.2.2.2.2)) (Option.some.inj hf).symm H locs ls hP hS (lv_sub hl [] rfl)
    · have hf := (if_neg hc3).symm.trans hf
      refine lv_iload_n hx hb dX6_trialGoesAsTold_10 rfl (lv_at hl 3 rfl) ?_
      refine lv_if_le (tgt := 22) hx hb dX6_trialGoesAsTold_11 (by decide) (fun hc4 => ?_) (fun hc4 => ?_)
      · have hf := (if_pos hc4).symm.trans hf
        refine lv_aload_n hx hb dX6_trialGoesAsTold_22 rfl (lv_at hl 1 rfl) ?_
        refine lv_iload_n hx hb dX6_trialGoesAsTold_23 rfl (lv_at hl 3 rfl) ?_
        obtain ⟨q5, hq5, hf⟩ := bd_some hf
        refine kr_S (st1 := [.int q5]) (va_runV (As := [.int s1.1]) (rest := []) ⟨hx, hb, hml, hown, hts⟩ (ct_X4_numberAt l n g (pk3 (p0_paths, p0_water, p0_wall, p0_kind, p0_place, p0_facing, p0_age, p0_seeds, p0_season, p0_z, p0_spots) (s1.2.1, p1_water, p1_wall, p1_kind, s1.2.2.1, s1.2.2.2.1, s1.2.2.2.2.1, p1_seeds, s1.2.2.2.2.2, p1_z, p1_spots) (p2_paths, p2_water, p2_wall, p2_kind, p2_place, p2_facing, p2_age, p2_seeds, p2_season, p2_z, p2_spots), w_isKept, (t_bytes, t_length, t_sort, t_start, t_end, t_value), (h_numbers, h_bits, h_size), w_told) h_numbers h_bits h_size rfl j hj s1.1 q5 hq5) (cwV 1 hts gX6_trialGoesAsTold_X4_numberAt rfl rfl rfl hd_X4_numberAt ⟨Nat.le_of_ble_eq_true rfl, Nat.le_of_ble_eq_true rfl⟩) ⟨bl_C, va_recv hK hP (ci := 2) (q0 := (8 + j)) rfl (e_sh hj rfl (T := (h_numbers, h_bits, h_size))), pr_C rfl hB hP hS⟩ rfl rfl hl.1 rfl (lv_room (Nat.le_of_ble_eq_true rfl)) dX6_trialGoesAsTold_24 ⟨Nat.le_refl _, Nat.le_refl _⟩) rfl (fun hn6 => ?_)
        refine lv_istore (lv' := [(4, .int q5), (0, .ref (ga g 0)), (1, .ref (ga g (8 + j))), (2, .int a2), (3, .int s1.1)]) hx hb dX6_trialGoesAsTold_27 hl (by decide) rfl (fun ls hl => ?_)
        refine lv_iload hx hb dX6_trialGoesAsTold_29 (lv_at hl 0 rfl) ?_
        refine lv_iconst (v := (-1 : Int32)) hx hb dX6_trialGoesAsTold_31 (by decide) ?_
        refine lv_icmp_eq (tgt := 50) hx hb dX6_trialGoesAsTold_32 (by decide) (fun hc7 => ?_) (fun hc7 => ?_)
        · have hf := (if_pos hc7).symm.trans hf
          refine lv_iinc (v := (s1.1 + (1 : Int32))) (lv' := [(3, .int (s1.1 + (1 : Int32))), (4, .int q5), (0, .ref (ga g 0)), (1, .ref (ga g (8 + j))), (2, .int a2)]) hx hb dX6_trialGoesAsTold_50 hl (k := 4) rfl (congrArg (fun y => s1.1 + y) (by decide : Int32.ofInt (1) = (1 : Int32))) (by decide) rfl (fun ls hl => ?_)
          refine lv_goto (tgt := 2) hx hb dX6_trialGoesAsTold_53 (by decide) ?_
          exact hback1 _ (Option.some.inj hf).symm H locs ls hP hS (lv_sub hl [2, 3, 4, 0] rfl)
        · have hf := (if_neg hc7).symm.trans hf
          refine lv_iload hx hb dX6_trialGoesAsTold_35 (lv_at hl 0 rfl) ?_
          refine lv_aload_n hx hb dX6_trialGoesAsTold_37 rfl (lv_at hl 1 rfl) ?_
          refine va_get (D := g.1) (ci := 4) (v := .ref (ga g (1 + 1))) (C := RX6) (T := TX6) (N := 7) hx hb hts iwX6 hown hK hP 0 q_sp rfl 1 (by decide) hw0 (fun _ h9 => h9) rfl dX6_trialGoesAsTold_38 ?_
          refine lv_iload_n hx hb dX6_trialGoesAsTold_41 rfl (lv_at hl 3 rfl) ?_
          obtain ⟨q8, hq8, hf⟩ := bd_some hf
          refine kr_S (st1 := [.int q8, .int q5]) (va_runV (As := [.int a2]) (rest := [.int q5]) ⟨hx, hb, hml, hown, hts⟩ (ct_X2_pathOf l n g (pk3 (p0_paths, p0_water, p0_wall, p0_kind, p0_place, p0_facing, p0_age, p0_seeds, p0_season, p0_z, p0_spots) (s1.2.1, p1_water, p1_wall, p1_kind, s1.2.2.1, s1.2.2.2.1, s1.2.2.2.2.1, p1_seeds, s1.2.2.2.2.2, p1_z, p1_spots) (p2_paths, p2_water, p2_wall, p2_kind, p2_place, p2_facing, p2_age, p2_seeds, p2_season, p2_z, p2_spots), w_isKept, (t_bytes, t_length, t_sort, t_start, t_end, t_value), (h_numbers, h_bits, h_size), w_told) 1 (by decide) s1.2.1 p1_water p1_wall p1_kind s1.2.2.1 s1.2.2.2.1 s1.2.2.2.2.1 p1_seeds s1.2.2.2.2.2 p1_z p1_spots rfl a2 q8 hq8) (cwV 1 hts gX6_trialGoesAsTold_X2_pathOf rfl rfl rfl hd_X2_pathOf ⟨Nat.le_of_ble_eq_true rfl, Nat.le_of_ble_eq_true rfl⟩) ⟨bl_C, va_recv hK hP (ci := 0) (q0 := (1 + 1)) rfl (e_pk (by decide) rfl (Q := (s1.2.1, p1_water, p1_wall, p1_kind, s1.2.2.1, s1.2.2.2.1, s1.2.2.2.2.1, p1_seeds, s1.2.2.2.2.2, p1_z, p1_spots))), pr_C rfl hB hP hS⟩ rfl rfl hl.1 rfl (lv_room (Nat.le_of_ble_eq_true rfl)) dX6_trialGoesAsTold_42 ⟨Nat.le_refl _, Nat.le_refl _⟩) rfl (fun hn9 => ?_)
          refine lv_icmp_eq (tgt := 50) hx hb dX6_trialGoesAsTold_45 (by decide) (fun hc10 => ?_) (fun hc10 => ?_)
          · have hf := (if_pos hc10).symm.trans hf
            refine lv_iinc (v := (s1.1 + (1 : Int32))) (lv' := [(3, .int (s1.1 + (1 : Int32))), (4, .int q5), (0, .ref (ga g 0)), (1, .ref (ga g (8 + j))), (2, .int a2)]) hx hb dX6_trialGoesAsTold_50 hl (k := 4) rfl (congrArg (fun y => s1.1 + y) (by decide : Int32.ofInt (1) = (1 : Int32))) (by decide) rfl (fun ls hl => ?_)
            refine lv_goto (tgt := 2) hx hb dX6_trialGoesAsTold_53 (by decide) ?_
            exact hback1 _ (Option.some.inj hf).symm H locs ls hP hS (lv_sub hl [2, 3, 4, 0] rfl)
          · have hf := (if_neg hc10).symm.trans hf
            refine lv_iconst (v := (0 : Int32)) hx hb dX6_trialGoesAsTold_48 (by decide) ?_
            have hres : ((0 : Int32), s1.2.1, s1.2.2.1, s1.2.2.2.1, s1.2.2.2.2.1, s1.2.2.2.2.2) = res := (hexit1 _ ((Option.some.inj hf)).symm)
            have hnr : narrow .boolean (.int (0 : Int32)) = .int (0 : Int32) := rfl
            have hP := w_eq (congrArg (fun z => cw g (pk3 (p0_paths, p0_water, p0_wall, p0_kind, p0_place, p0_facing, p0_age, p0_seeds, p0_season, p0_z, p0_spots) (z.2.1, p1_water, p1_wall, p1_kind, z.2.2.1, z.2.2.2.1, z.2.2.2.2.1, p1_seeds, z.2.2.2.2.2, p1_z, p1_spots) (p2_paths, p2_water, p2_wall, p2_kind, p2_place, p2_facing, p2_age, p2_seeds, p2_season, p2_z, p2_spots), w_isKept, (t_bytes, t_length, t_sort, t_start, t_end, t_value), (h_numbers, h_bits, h_size), w_told)) hres) hP
            exact W.zret (v := (0 : Int32)) hx hb hr hnr (fun t ht hW => ⟨congrArg (fun z => Outcome.returned (some (Value.int z.1))) hres, Eq.mp (congrArg (fun z => narrow .boolean (.int z.1) = .int z.1) hres) hnr, by rw [ht]; exact hP, hS.F ht⟩) hS.2.2 dX6_trialGoesAsTold_49
      · have hf := (if_neg hc4).symm.trans hf
        refine lv_aload_n hx hb dX6_trialGoesAsTold_14 rfl (lv_at hl 0 rfl) ?_
        refine va_get (D := g.1) (ci := 4) (v := .ref (ga g (1 + 1))) (C := RX6) (T := TX6) (N := 7) hx hb hts iwX6 hown hK hP 0 q_sp rfl 1 (by decide) hw0 (fun _ h9 => h9) rfl dX6_trialGoesAsTold_15 ?_
        refine lv_iconst (v := (1 : Int32)) hx hb dX6_trialGoesAsTold_18 (by decide) ?_
        obtain ⟨q11, hq11, hf⟩ := bd_some hf
        refine kr_W (st1 := []) (va_runV (As := [.int (1 : Int32)]) (rest := []) ⟨hx, hb, hml, hown, hts⟩ (ct_X2_pass l n g (fun P => (pk3 (p0_paths, p0_water, p0_wall, p0_kind, p0_place, p0_facing, p0_age, p0_seeds, p0_season, p0_z, p0_spots) P (p2_paths, p2_water, p2_wall, p2_kind, p2_place, p2_facing, p2_age, p2_seeds, p2_season, p2_z, p2_spots), w_isKept, (t_bytes, t_length, t_sort, t_start, t_end, t_value), (h_numbers, h_bits, h_size), w_told)) 1 (by decide) zP1 s1.2.1 p1_water p1_wall p1_kind s1.2.2.1 s1.2.2.2.1 s1.2.2.2.2.1 p1_seeds s1.2.2.2.2.2 p1_z p1_spots (1 : Int32) q11 hq11) (cwV 1 hts gX6_trialGoesAsTold_X2_pass rfl rfl rfl hd_X2_pass ⟨Nat.le_of_ble_eq_true rfl, Nat.le_of_ble_eq_true rfl⟩) ⟨bl_C, va_recv hK hP (ci := 0) (q0 := (1 + 1)) rfl (e_pk (by decide) rfl (Q := (s1.2.1, p1_water, p1_wall, p1_kind, s1.2.2.1, s1.2.2.2.1, s1.2.2.2.2.1, p1_seeds, s1.2.2.2.2.2, p1_z, p1_spots))), pr_C rfl hB hP hS⟩ rfl rfl hl.1 rfl (lv_room (Nat.le_of_ble_eq_true rfl)) dX6_trialGoesAsTold_19 ⟨Nat.le_refl _, Nat.le_refl _⟩) hS rfl (fun hn12 H locs hP hS => ?_)
        have hP : va_P g.1 vwCl (cw g (pk3 (p0_paths, p0_water, p0_wall, p0_kind, p0_place, p0_facing, p0_age, p0_seeds, p0_season, p0_z, p0_spots) (q11.1, p1_water, p1_wall, p1_kind, q11.2.1, q11.2.2.1, q11.2.2.2.1, p1_seeds, q11.2.2.2.2, p1_z, p1_spots) (p2_paths, p2_water, p2_wall, p2_kind, p2_place, p2_facing, p2_age, p2_seeds, p2_season, p2_z, p2_spots), w_isKept, (t_bytes, t_length, t_sort, t_start, t_end, t_value), (h_numbers, h_bits, h_size), w_told)) H := hP
        refine lv_aload_n hx hb dX6_trialGoesAsTold_22 rfl (lv_at hl 1 rfl) ?_
        refine lv_iload_n hx hb dX6_trialGoesAsTold_23 rfl (lv_at hl 3 rfl) ?_
        obtain ⟨q13, hq13, hf⟩ := bd_some hf
        refine kr_S (st1 := [.int q13]) (va_runV (As := [.int s1.1]) (rest := []) ⟨hx, hb, hml, hown, hts⟩ (ct_X4_numberAt l n g (pk3 (p0_paths, p0_water, p0_wall, p0_kind, p0_place, p0_facing, p0_age, p0_seeds, p0_season, p0_z, p0_spots) (q11.1, p1_water, p1_wall, p1_kind, q11.2.1, q11.2.2.1, q11.2.2.2.1, p1_seeds, q11.2.2.2.2, p1_z, p1_spots) (p2_paths, p2_water, p2_wall, p2_kind, p2_place, p2_facing, p2_age, p2_seeds, p2_season, p2_z, p2_spots), w_isKept, (t_bytes, t_length, t_sort, t_start, t_end, t_value), (h_numbers, h_bits, h_size), w_told) h_numbers h_bits h_size rfl j hj s1.1 q13 hq13) (cwV 1 hts gX6_trialGoesAsTold_X4_numberAt rfl rfl rfl hd_X4_numberAt ⟨Nat.le_of_ble_eq_true rfl, Nat.le_of_ble_eq_true rfl⟩) ⟨bl_C, va_recv hK hP (ci := 2) (q0 := (8 + j)) rfl (e_sh hj rfl (T := (h_numbers, h_bits, h_size))), pr_C rfl hB hP hS⟩ rfl rfl hl.1 rfl (lv_room (Nat.le_of_ble_eq_true rfl)) dX6_trialGoesAsTold_24 ⟨Nat.le_refl _, Nat.le_refl _⟩) rfl (fun hn14 => ?_)
        refine lv_istore (lv' := [(4, .int q13), (0, .ref (ga g 0)), (1, .ref (ga g (8 + j))), (2, .int a2), (3, .int s1.1)]) hx hb dX6_trialGoesAsTold_27 hl (by decide) rfl (fun ls hl => ?_)
        refine lv_iload hx hb dX6_trialGoesAsTold_29 (lv_at hl 0 rfl) ?_
        refine lv_iconst (v := (-1 : Int32)) hx hb dX6_trialGoesAsTold_31 (by decide) ?_
        refine lv_icmp_eq (tgt := 50) hx hb dX6_trialGoesAsTold_32 (by decide) (fun hc15 => ?_) (fun hc15 => ?_)
        · have hf := (if_pos hc15).symm.trans hf
          refine lv_iinc (v := (s1.1 + (1 : Int32))) (lv' := [(3, .int (s1.1 + (1 : Int32))), (4, .int q13), (0, .ref (ga g 0)), (1, .ref (ga g (8 + j))), (2, .int a2)]) hx hb dX6_trialGoesAsTold_50 hl (k := 4) rfl (congrArg (fun y => s1.1 + y) (by decide : Int32.ofInt (1) = (1 : Int32))) (by decide) rfl (fun ls hl => ?_)
          refine lv_goto (tgt := 2) hx hb dX6_trialGoesAsTold_53 (by decide) ?_
          exact hback1 _ (Option.some.inj hf).symm H locs ls hP hS (lv_sub hl [2, 3, 4, 0] rfl)
        · have hf := (if_neg hc15).symm.trans hf
          refine lv_iload hx hb dX6_trialGoesAsTold_35 (lv_at hl 0 rfl) ?_
          refine lv_aload_n hx hb dX6_trialGoesAsTold_37 rfl (lv_at hl 1 rfl) ?_
          refine va_get (D := g.1) (ci := 4) (v := .ref (ga g (1 + 1))) (C := RX6) (T := TX6) (N := 7) hx hb hts iwX6 hown hK hP 0 q_sp rfl 1 (by decide) hw0 (fun _ h9 => h9) rfl dX6_trialGoesAsTold_38 ?_
          refine lv_iload_n hx hb dX6_trialGoesAsTold_41 rfl (lv_at hl 3 rfl) ?_
          obtain ⟨q16, hq16, hf⟩ := bd_some hf
          refine kr_S (st1 := [.int q16, .int q13]) (va_runV (As := [.int a2]) (rest := [.int q13]) ⟨hx, hb, hml, hown, hts⟩ (ct_X2_pathOf l n g (pk3 (p0_paths, p0_water, p0_wall, p0_kind, p0_place, p0_facing, p0_age, p0_seeds, p0_season, p0_z, p0_spots) (q11.1, p1_water, p1_wall, p1_kind, q11.2.1, q11.2.2.1, q11.2.2.2.1, p1_seeds, q11.2.2.2.2, p1_z, p1_spots) (p2_paths, p2_water, p2_wall, p2_kind, p2_place, p2_facing, p2_age, p2_seeds, p2_season, p2_z, p2_spots), w_isKept, (t_bytes, t_length, t_sort, t_start, t_end, t_value), (h_numbers, h_bits, h_size), w_told) 1 (by decide) q11.1 p1_water p1_wall p1_kind q11.2.1 q11.2.2.1 q11.2.2.2.1 p1_seeds q11.2.2.2.2 p1_z p1_spots rfl a2 q16 hq16) (cwV 1 hts gX6_trialGoesAsTold_X2_pathOf rfl rfl rfl hd_X2_pathOf ⟨Nat.le_of_ble_eq_true rfl, Nat.le_of_ble_eq_true rfl⟩) ⟨bl_C, va_recv hK hP (ci := 0) (q0 := (1 + 1)) rfl (e_pk (by decide) rfl (Q := (q11.1, p1_water, p1_wall, p1_kind, q11.2.1, q11.2.2.1, q11.2.2.2.1, p1_seeds, q11.2.2.2.2, p1_z, p1_spots))), pr_C rfl hB hP hS⟩ rfl rfl hl.1 rfl (lv_room (Nat.le_of_ble_eq_true rfl)) dX6_trialGoesAsTold_42 ⟨Nat.le_refl _, Nat.le_refl _⟩) rfl (fun hn17 => ?_)
          refine lv_icmp_eq (tgt := 50) hx hb dX6_trialGoesAsTold_45 (by decide) (fun hc18 => ?_) (fun hc18 => ?_)
          · have hf := (if_pos hc18).symm.trans hf
            refine lv_iinc (v := (s1.1 + (1 : Int32))) (lv' := [(3, .int (s1.1 + (1 : Int32))), (4, .int q13), (0, .ref (ga g 0)), (1, .ref (ga g (8 + j))), (2, .int a2)]) hx hb dX6_trialGoesAsTold_50 hl (k := 4) rfl (congrArg (fun y => s1.1 + y) (by decide : Int32.ofInt (1) = (1 : Int32))) (by decide) rfl (fun ls hl => ?_)
            refine lv_goto (tgt := 2) hx hb dX6_trialGoesAsTold_53 (by decide) ?_
            exact hback1 _ (Option.some.inj hf).symm H locs ls hP hS (lv_sub hl [2, 3, 4, 0] rfl)
          · have hf := (if_neg hc18).symm.trans hf
            refine lv_iconst (v := (0 : Int32)) hx hb dX6_trialGoesAsTold_48 (by decide) ?_
            have hres : ((0 : Int32), q11.1, q11.2.1, q11.2.2.1, q11.2.2.2.1, q11.2.2.2.2) = res := (hexit1 _ ((Option.some.inj hf)).symm)
            have hnr : narrow .boolean (.int (0 : Int32)) = .int (0 : Int32) := rfl
            have hP := w_eq (congrArg (fun z => cw g (pk3 (p0_paths, p0_water, p0_wall, p0_kind, p0_place, p0_facing, p0_age, p0_seeds, p0_season, p0_z, p0_spots) (z.2.1, p1_water, p1_wall, p1_kind, z.2.2.1, z.2.2.2.1, z.2.2.2.2.1, p1_seeds, z.2.2.2.2.2, p1_z, p1_spots) (p2_paths, p2_water, p2_wall, p2_kind, p2_place, p2_facing, p2_age, p2_seeds, p2_season, p2_z, p2_spots), w_isKept, (t_bytes, t_length, t_sort, t_start, t_end, t_value), (h_numbers, h_bits, h_size), w_told)) hres) hP
            exact W.zret (v := (0 : Int32)) hx hb hr hnr (fun t ht hW => ⟨congrArg (fun z => Outcome.returned (some (Value.int z.1))) hres, Eq.mp (congrArg (fun z => narrow .boolean (.int z.1) = .int z.1) hres) hnr, by rw [ht]; exact hP, hS.F ht⟩) hS.2.2 dX6_trialGoesAsTold_49
set_option maxHeartbeats 4000000 in
set_option maxRecDepth 100000 in
theorem ct_X6_fits (l : Launch) (n : Nat) (g : GC) (p0_paths : Nat → Int32) (p0_water : Int64) (p0_wall : Int64) (p0_kind : Nat → Int32) (p0_place : Nat → Int32) (p0_facing : Nat → Int32) (p0_age : Nat → Int32) (p0_seeds : Int32) (p0_season : Int32) (p0_z : Int32) (p0_spots : Nat → Int32) (p1_paths : Nat → Int32) (p1_water : Int64) (p1_wall : Int64) (p1_kind : Nat → Int32) (p1_place : Nat → Int32) (p1_facing : Nat → Int32) (p1_age : Nat → Int32) (p1_seeds : Int32) (p1_season : Int32) (p1_z : Int32) (p1_spots : Nat → Int32) (p2_paths : Nat → Int32) (p2_water : Int64) (p2_wall : Int64) (p2_kind : Nat → Int32) (p2_place : Nat → Int32) (p2_facing : Nat → Int32) (p2_age : Nat → Int32) (p2_seeds : Int32) (p2_season : Int32) (p2_z : Int32) (p2_spots : Nat → Int32) (t_bytes : Nat → Int32) (t_length : Int32) (t_sort : Int32) (t_start : Int32) (t_end : Int32) (t_value : Int32) (h_numbers : Nat → Nat → Int32) (h_bits : Nat → Int32) (h_size : Nat → Int32) (w_isKept : Int32) (w_told : Nat → Int32) (a1 : Int32) (a2 : Int32) (a3 : Int32) (res : Int32 × (Nat → Int32) × Int64 × Int64 × (Nat → Int32) × (Nat → Int32) × (Nat → Int32) × (Nat → Int32) × Int32 × Int32 × Int32 × (Nat → Int32) × (Nat → Int32)) (hf : fX6_fits n a1 a2 a3 p0_paths p0_water p0_wall p0_kind p0_place p0_facing p0_age p0_seeds p0_season p0_z p0_spots p1_paths p1_water p1_wall p1_kind p1_place p1_facing p1_age p1_seeds p1_season p1_z p1_spots h_numbers h_bits h_size w_told = some res) : Met l yX6_fits wsX6_fits ({ frames := 7, cells := 0, slots := 0, locals := 163 }) (va_Pc [.ref (ga g 0), .int a1, .int a2, .int a3] (cI g (pk3 (p0_paths, p0_water, p0_wall, p0_kind, p0_place, p0_facing, p0_age, p0_seeds, p0_season, p0_z, p0_spots) (p1_paths, p1_water, p1_wall, p1_kind, p1_place, p1_facing, p1_age, p1_seeds, p1_season, p1_z, p1_spots) (p2_paths, p2_water, p2_wall, p2_kind, p2_place, p2_facing, p2_age, p2_seeds, p2_season, p2_z, p2_spots), w_isKept, (t_bytes, t_length, t_sort, t_start, t_end, t_value), (h_numbers, h_bits, h_size), w_told))) (qW (some (.int res.1)) True g.1 (cw g (pk3 (p0_paths, p0_water, p0_wall, p0_kind, p0_place, p0_facing, p0_age, p0_seeds, p0_season, p0_z, p0_spots) (res.2.1, res.2.2.1, res.2.2.2.1, res.2.2.2.2.1, res.2.2.2.2.2.1, res.2.2.2.2.2.2.1, res.2.2.2.2.2.2.2.1, res.2.2.2.2.2.2.2.2.1, res.2.2.2.2.2.2.2.2.2.1, res.2.2.2.2.2.2.2.2.2.2.1, res.2.2.2.2.2.2.2.2.2.2.2.1) (p2_paths, p2_water, p2_wall, p2_kind, p2_place, p2_facing, p2_age, p2_seeds, p2_season, p2_z, p2_spots), w_isKept, (t_bytes, t_length, t_sort, t_start, t_end, t_value), (h_numbers, h_bits, h_size), res.2.2.2.2.2.2.2.2.2.2.2.2)) (gA g)) 0 0 (gA g) := by
  refine Met.ofW (cc := cX6_fits) (maxL := 7) (ret := (some .int)) (by decide) rfl ?_
  intro p e s m args below meth c s₁ B hml hv
  obtain ⟨rfl, hI⟩ := hv
  have hx := B.exec
  have hb := B.bytes
  have hr := B.returns
  have hts := atoms_spec (ws := wsX6_fits) B.pre
  have hown : s.vm.findClass RX6 = some m.cls := findClass_of_methodNamed B.named
  have hlocks := B.notSynchronized
  have hP := hI.1
  have hB := hI.2
  have hK := hB.1
  have hNW := hB.2.1
  have hS : va_S (gA g) s.heap s.heap [] := va_S.rf
  have hw0 := hts (.fieldLink RX6 10 "SownPaths" "park" "LSownPaths$Park;") (by decide +kernel)
  have hw1 := hts (.fieldLink RX6 16 "SownPaths" "trial" "LSownPaths$Park;") (by decide +kernel)
  have iwX6 : ∀ w ∈ wsX60, w ∈ wsX6_fits := fun w h => List.mem_cons_of_mem _ (List.mem_append_left _ (List.mem_append_left _ (List.mem_append_left _ (List.mem_append_right _ h))))
  have hl := lv_entry ([.ref (ga g 0), .int a1, .int a2, .int a3]) (n := 7) (Nat.le_of_ble_eq_true rfl)
  rw [lg_entry_eq]
  generalize (lg_sl ([.ref (ga g 0), .int a1, .int a2, .int a3]) ++ List.replicate (7 - (lg_sl ([.ref (ga g 0), .int a1, .int a2, .int a3])).length) Slot.unset).toArray = ls at hl ⊢
  have hl : lv_has ls 7 [(0, .ref (ga g 0)), (1, .int a1), (2, .int a2), (3, .int a3)] := hl
  unfold fX6_fits at hf
  refine lv_aload_n hx hb dX6_fits_0 rfl (lv_at hl 0 rfl) ?_
  refine lv_iload_n hx hb dX6_fits_1 rfl (lv_at hl 1 rfl) ?_
  obtain ⟨q1, hq1, hf⟩ := bd_some hf
  refine kr_S (st1 := [va_rf (Option.map (fun j => ga g (8 + j)) q1)]) (va_runV (As := [.int a1]) (rest := []) ⟨hx, hb, hml, hown, hts⟩ (ct_X6_sheetAt l n g p0_paths p0_water p0_wall p0_kind p0_place p0_facing p0_age p0_seeds p0_season p0_z p0_spots p1_paths p1_water p1_wall p1_kind p1_place p1_facing p1_age p1_seeds p1_season p1_z p1_spots p2_paths p2_water p2_wall p2_kind p2_place p2_facing p2_age p2_seeds p2_season p2_z p2_spots t_bytes t_length t_sort t_start t_end t_value h_numbers h_bits h_size w_isKept w_told a1 q1 hq1) (cwV 1 hts gX6_fits_X6_sheetAt rfl rfl rfl hd_X6_sheetAt ⟨Nat.le_of_ble_eq_true rfl, Nat.le_of_ble_eq_true rfl⟩) ⟨bl_C, va_recv hK hP (ci := 4) (q0 := 0) rfl q_sp, pr_C rfl hB hP hS⟩ rfl rfl hl.1 rfl (lv_room (Nat.le_of_ble_eq_true rfl)) dX6_fits_2 ⟨Nat.le_refl _, Nat.le_refl _⟩) rfl (fun hn2 => ?_)
  rcases q1 with _ | j3
  · have hf := eo_n hf
    refine W.eq (g2 := F0 m 5 ls [.null]) rfl ?_
    refine lv_astoreN (lv' := [(4, .null), (0, .ref (ga g 0)), (1, .int a1), (2, .int a2), (3, .int a3)]) hx hb dX6_fits_5 hl (by decide) rfl (fun ls hl => ?_)
    refine lv_aloadN hx hb dX6_fits_7 (lv_at hl 0 rfl) ?_
    refine lv_ifnonnullN hx hb dX6_fits_9 ?_
    refine lv_aload_n hx hb dX6_fits_12 rfl (lv_at hl 1 rfl) ?_
    refine lv_iconst (v := (0 : Int32)) hx hb dX6_fits_13 (by decide) ?_
    obtain ⟨q5, hq5, hf⟩ := bd_some hf
    refine kr_W (st1 := [.int q5.1]) (va_runV (As := [.int (0 : Int32)]) (rest := []) ⟨hx, hb, hml, hown, hts⟩ (ct_X6_finding l n g p0_paths p0_water p0_wall p0_kind p0_place p0_facing p0_age p0_seeds p0_season p0_z p0_spots p1_paths p1_water p1_wall p1_kind p1_place p1_facing p1_age p1_seeds p1_season p1_z p1_spots p2_paths p2_water p2_wall p2_kind p2_place p2_facing p2_age p2_seeds p2_season p2_z p2_spots t_bytes t_length t_sort t_start t_end t_value h_numbers h_bits h_size w_isKept w_told (0 : Int32) q5 hq5) (cwV 1 hts gX6_fits_X6_finding rfl rfl rfl hd_X6_finding ⟨Nat.le_of_ble_eq_true rfl, Nat.le_of_ble_eq_true rfl⟩) ⟨bl_C, va_recv hK hP (ci := 4) (q0 := 0) rfl q_sp, pr_C rfl hB hP hS⟩ rfl rfl hl.1 rfl (lv_room (Nat.le_of_ble_eq_true rfl)) dX6_fits_14 ⟨Nat.le_refl _, Nat.le_refl _⟩) hS rfl (fun hn6 H locs hP hS => ?_)
    have hP : va_P g.1 vwCl (cw g (pk3 (p0_paths, p0_water, p0_wall, p0_kind, p0_place, p0_facing, p0_age, p0_seeds, p0_season, p0_z, p0_spots) (p1_paths, p1_water, p1_wall, p1_kind, p1_place, p1_facing, p1_age, p1_seeds, p1_season, p1_z, p1_spots) (p2_paths, p2_water, p2_wall, p2_kind, p2_place, p2_facing, p2_age, p2_seeds, p2_season, p2_z, p2_spots), w_isKept, (t_bytes, t_length, t_sort, t_start, t_end, t_value), (h_numbers, h_bits, h_size), q5.2)) H := hP
    have hres : (q5.1, p1_paths, p1_water, p1_wall, p1_kind, p1_place, p1_facing, p1_age, p1_seeds, p1_season, p1_z, p1_spots, q5.2) = res := (Option.some.inj hf)
    have hP := w_eq (congrArg (fun z => cw g (pk3 (p0_paths, p0_water, p0_wall, p0_kind, p0_place, p0_facing, p0_age, p0_seeds, p0_season, p0_z, p0_spots) (z.2.1, z.2.2.1, z.2.2.2.1, z.2.2.2.2.1, z.2.2.2.2.2.1, z.2.2.2.2.2.2.1, z.2.2.2.2.2.2.2.1, z.2.2.2.2.2.2.2.2.1, z.2.2.2.2.2.2.2.2.2.1, z.2.2.2.2.2.2.2.2.2.2.1, z.2.2.2.2.2.2.2.2.2.2.2.1) (p2_paths, p2_water, p2_wall, p2_kind, p2_place, p2_facing, p2_age, p2_seeds, p2_season, p2_z, p2_spots), w_isKept, (t_bytes, t_length, t_sort, t_start, t_end, t_value), (h_numbers, h_bits, h_size), z.2.2.2.2.2.2.2.2.2.2.2.2)) hres) hP
    exact W.iret (v := q5.1) hx hb hr (fun t ht hW => ⟨congrArg (fun z => Outcome.returned (some (Value.int z.1))) hres, trivial, by rw [ht]; exact hP, hS.F ht⟩) hS.2.2 dX6_fits_17
  · have hf := eo_s hf
    have hj4 := hn2 _ rfl
    refine W.eq (g2 := F0 m 5 ls [.ref (ga g (8 + j3))]) rfl ?_
    refine lv_astore (lv' := [(4, .ref (ga g (8 + j3))), (0, .ref (ga g 0)), (1, .int a1), (2, .int a2), (3, .int a3)]) hx hb dX6_fits_5 hl (by decide) rfl (fun ls hl => ?_)
    refine lv_aload hx hb dX6_fits_7 (lv_at hl 0 rfl) ?_
    refine lv_ifnonnull (tgt := 18) hx hb dX6_fits_9 (by decide) ?_
    refine lv_aload hx hb dX6_fits_18 (lv_at hl 0 rfl) ?_
    obtain ⟨q7, hq7, hf⟩ := bd_some hf
    refine kr_S (st1 := [.int q7]) (va_runV (As := []) (rest := []) ⟨hx, hb, hml, hown, hts⟩ (ct_X4_isMissing l n g (pk3 (p0_paths, p0_water, p0_wall, p0_kind, p0_place, p0_facing, p0_age, p0_seeds, p0_season, p0_z, p0_spots) (p1_paths, p1_water, p1_wall, p1_kind, p1_place, p1_facing, p1_age, p1_seeds, p1_season, p1_z, p1_spots) (p2_paths, p2_water, p2_wall, p2_kind, p2_place, p2_facing, p2_age, p2_seeds, p2_season, p2_z, p2_spots), w_isKept, (t_bytes, t_length, t_sort, t_start, t_end, t_value), (h_numbers, h_bits, h_size), w_told) h_numbers h_bits h_size rfl j3 hj4 q7 hq7) (cwV 0 hts gX6_fits_X4_isMissing rfl rfl rfl hd_X4_isMissing ⟨Nat.le_of_ble_eq_true rfl, Nat.le_of_ble_eq_true rfl⟩) ⟨bl_C, va_recv hK hP (ci := 2) (q0 := (8 + j3)) rfl (e_sh hj4 rfl (T := (h_numbers, h_bits, h_size))), pr_C rfl hB hP hS⟩ rfl rfl hl.1 rfl (lv_room (Nat.le_of_ble_eq_true rfl)) dX6_fits_20 ⟨Nat.le_refl _, Nat.le_refl _⟩) rfl (fun hn8 => ?_)
    refine lv_if_eq (tgt := 32) hx hb dX6_fits_23 (by decide) (fun hc9 => ?_) (fun hc9 => ?_)
    · have hf := (if_pos hc9).symm.trans hf
      refine lv_aload_n hx hb dX6_fits_32 rfl (lv_at hl 1 rfl) ?_
      refine va_get (D := g.1) (ci := 4) (v := .ref (ga g (1 + 0))) (C := RX6) (T := TX6) (N := 7) hx hb hts iwX6 hown hK hP 0 q_sp rfl 0 (by decide) hw0 (fun _ h9 => h9) rfl dX6_fits_33 ?_
      refine lv_iload_n hx hb dX6_fits_36 rfl (lv_at hl 3 rfl) ?_
      obtain ⟨q10, hq10, hf⟩ := bd_some hf
      refine kr_S (st1 := [va_rf (Option.map (fun j => ga g (25 + 8 * 0 + j)) q10)]) (va_runV (As := [.int a2]) (rest := []) ⟨hx, hb, hml, hown, hts⟩ (ct_X2_seedAt l n g (pk3 (p0_paths, p0_water, p0_wall, p0_kind, p0_place, p0_facing, p0_age, p0_seeds, p0_season, p0_z, p0_spots) (p1_paths, p1_water, p1_wall, p1_kind, p1_place, p1_facing, p1_age, p1_seeds, p1_season, p1_z, p1_spots) (p2_paths, p2_water, p2_wall, p2_kind, p2_place, p2_facing, p2_age, p2_seeds, p2_season, p2_z, p2_spots), w_isKept, (t_bytes, t_length, t_sort, t_start, t_end, t_value), (h_numbers, h_bits, h_size), w_told) 0 (by decide) p0_paths p0_water p0_wall p0_kind p0_place p0_facing p0_age p0_seeds p0_season p0_z p0_spots rfl a2 q10 hq10) (cwV 1 hts gX6_fits_X2_seedAt rfl rfl rfl hd_X2_seedAt ⟨Nat.le_of_ble_eq_true rfl, Nat.le_of_ble_eq_true rfl⟩) ⟨bl_C, va_recv hK hP (ci := 0) (q0 := (1 + 0)) rfl (e_pk (by decide) rfl (Q := (p0_paths, p0_water, p0_wall, p0_kind, p0_place, p0_facing, p0_age, p0_seeds, p0_season, p0_z, p0_spots))), pr_C rfl hB hP hS⟩ rfl rfl hl.1 rfl (lv_room (Nat.le_of_ble_eq_true rfl)) dX6_fits_37 ⟨Nat.le_refl _, Nat.le_refl _⟩) rfl (fun hn11 => ?_)
      rcases q10 with _ | j12
      · have hf := eo_n hf
        refine W.eq (g2 := F0 m 40 ls [.null]) rfl ?_
        refine lv_ifnullN (tgt := 50) hx hb dX6_fits_40 (by decide) ?_
        refine lv_aload_n hx hb dX6_fits_50 rfl (lv_at hl 1 rfl) ?_
        refine lv_iconst (v := (0 : Int32)) hx hb dX6_fits_51 (by decide) ?_
        obtain ⟨q14, hq14, hf⟩ := bd_some hf
        refine kr_W (st1 := [.int q14.1]) (va_runV (As := [.int (0 : Int32)]) (rest := []) ⟨hx, hb, hml, hown, hts⟩ (ct_X6_finding l n g p0_paths p0_water p0_wall p0_kind p0_place p0_facing p0_age p0_seeds p0_season p0_z p0_spots p1_paths p1_water p1_wall p1_kind p1_place p1_facing p1_age p1_seeds p1_season p1_z p1_spots p2_paths p2_water p2_wall p2_kind p2_place p2_facing p2_age p2_seeds p2_season p2_z p2_spots t_bytes t_length t_sort t_start t_end t_value h_numbers h_bits h_size w_isKept w_told (0 : Int32) q14 hq14) (cwV 1 hts gX6_fits_X6_finding rfl rfl rfl hd_X6_finding ⟨Nat.le_of_ble_eq_true rfl, Nat.le_of_ble_eq_true rfl⟩) ⟨bl_C, va_recv hK hP (ci := 4) (q0 := 0) rfl q_sp, pr_C rfl hB hP hS⟩ rfl rfl hl.1 rfl (lv_room (Nat.le_of_ble_eq_true rfl)) dX6_fits_52 ⟨Nat.le_refl _, Nat.le_refl _⟩) hS rfl (fun hn15 H locs hP hS => ?_)
        have hP : va_P g.1 vwCl (cw g (pk3 (p0_paths, p0_water, p0_wall, p0_kind, p0_place, p0_facing, p0_age, p0_seeds, p0_season, p0_z, p0_spots) (p1_paths, p1_water, p1_wall, p1_kind, p1_place, p1_facing, p1_age, p1_seeds, p1_season, p1_z, p1_spots) (p2_paths, p2_water, p2_wall, p2_kind, p2_place, p2_facing, p2_age, p2_seeds, p2_season, p2_z, p2_spots), w_isKept, (t_bytes, t_length, t_sort, t_start, t_end, t_value), (h_numbers, h_bits, h_size), q14.2)) H := hP
        have hres : (q14.1, p1_paths, p1_water, p1_wall, p1_kind, p1_place, p1_facing, p1_age, p1_seeds, p1_season, p1_z, p1_spots, q14.2) = res := (Option.some.inj hf)
        have hP := w_eq (congrArg (fun z => cw g (pk3 (p0_paths, p0_water, p0_wall, p0_kind, p0_place, p0_facing, p0_age, p0_seeds, p0_season, p0_z, p0_spots) (z.2.1, z.2.2.1, z.2.2.2.1, z.2.2.2.2.1, z.2.2.2.2.2.1, z.2.2.2.2.2.2.1, z.2.2.2.2.2.2.2.1, z.2.2.2.2.2.2.2.2.1, z.2.2.2.2.2.2.2.2.2.1, z.2.2.2.2.2.2.2.2.2.2.1, z.2.2.2.2.2.2.2.2.2.2.2.1) (p2_paths, p2_water, p2_wall, p2_kind, p2_place, p2_facing, p2_age, p2_seeds, p2_season, p2_z, p2_spots), w_isKept, (t_bytes, t_length, t_sort, t_start, t_end, t_value), (h_numbers, h_bits, h_size), z.2.2.2.2.2.2.2.2.2.2.2.2)) hres) hP
        exact W.iret (v := q14.1) hx hb hr (fun t ht hW => ⟨congrArg (fun z => Outcome.returned (some (Value.int z.1))) hres, trivial, by rw [ht]; exact hP, hS.F ht⟩) hS.2.2 dX6_fits_55
      · have hf := eo_s hf
        have hj13 := hn11 _ rfl
        refine W.eq (g2 := F0 m 40 ls [.ref (ga g (25 + 8 * 0 + j12))]) rfl ?_
        refine lv_ifnull hx hb dX6_fits_40 ?_
        refine lv_iload_n hx hb dX6_fits_43 rfl (lv_at hl 4 rfl) ?_
        obtain ⟨q16, hq16, hf⟩ := bd_some hf
        refine kr_S (st1 := [.int q16]) (va_runS (As := [.int a3]) (rest := []) ⟨hx, hb, hml, hown, hts⟩ (ct_X6_isCell l n a3 q16 hq16) (va_cwS 1 hts gX6_fits_X6_isCell rfl rfl rfl hn_X6_isCell ⟨Nat.le_of_ble_eq_true rfl, Nat.le_of_ble_eq_true rfl⟩) ⟨bl_N, pr_N rfl hNW⟩ rfl rfl hl.1 rfl (lv_room (Nat.le_of_ble_eq_true rfl)) dX6_fits_44 ⟨Nat.le_refl _, Nat.le_refl _⟩) rfl (fun hn17 => ?_)
        refine lv_if_ne (tgt := 56) hx hb dX6_fits_47 (by decide) (fun hc18 => ?_) (fun hc18 => ?_)
        · have hf := (if_neg hc18).symm.trans hf
          refine lv_iconst (v := (0 : Int32)) hx hb dX6_fits_56 (by decide) ?_
          refine lv_istore (lv' := [(5, .int (0 : Int32)), (4, .ref (ga g (8 + j3))), (0, .ref (ga g 0)), (1, .int a1), (2, .int a2), (3, .int a3)]) hx hb dX6_fits_57 hl (by decide) rfl (fun ls hl => ?_)
          refine lv_iconst (v := (0 : Int32)) hx hb dX6_fits_59 (by decide) ?_
          refine lv_istore (lv' := [(6, .int (0 : Int32)), (5, .int (0 : Int32)), (4, .ref (ga g (8 + j3))), (0, .ref (ga g 0)), (1, .int a1), (2, .int a2), (3, .int a3)]) hx hb dX6_fits_60 hl (by decide) rfl (fun ls hl => ?_)
          refine lp_run hf (fun s19 => ∀ (H : Heap) (locs : List Loc) (ls : Array Slot), va_P g.1 vwCl (cw g (pk3 (p0_paths, p0_water, p0_wall, p0_kind, p0_place, p0_facing, p0_age, p0_seeds, p0_season, p0_z, p0_spots) (s19.2.2.1, s19.2.2.2.1, s19.2.2.2.2.1, s19.2.2.2.2.2.1, s19.2.2.2.2.2.2.1, s19.2.2.2.2.2.2.2.1, s19.2.2.2.2.2.2.2.2.1, s19.2.2.2.2.2.2.2.2.2.1, s19.2.2.2.2.2.2.2.2.2.2.1, s19.2.2.2.2.2.2.2.2.2.2.2.1, s19.2.2.2.2.2.2.2.2.2.2.2.2) (p2_paths, p2_water, p2_wall, p2_kind, p2_place, p2_facing, p2_age, p2_seeds, p2_season, p2_z, p2_spots), w_isKept, (t_bytes, t_length, t_sort, t_start, t_end, t_value), (h_numbers, h_bits, h_size), w_told)) H → va_S (gA g) s.heap H locs → lv_has ls 7 [(0, .ref (ga g 0)), (2, .int a2), (3, .int a3), (4, .ref (ga g (8 + j3))), (5, .int s19.1), (6, .int s19.2.1)] → W p l e (headSpec wsX6_fits ({ frames := 7, cells := 0, slots := 0, locals := 163 })).room s m ([.ref (ga g 0), .int a1, .int a2, .int a3] : List Value).toArray below meth c H locs 0 0 (MQ below (qW (some (.int res.1)) True g.1 (cw g (pk3 (p0_paths, p0_water, p0_wall, p0_kind, p0_place, p0_facing, p0_age, p0_seeds, p0_season, p0_z, p0_spots) (res.2.1, res.2.2.1, res.2.2.2.1, res.2.2.2.2.1, res.2.2.2.2.2.1, res.2.2.2.2.2.2.1, res.2.2.2.2.2.2.2.1, res.2.2.2.2.2.2.2.2.1, res.2.2.2.2.2.2.2.2.2.1, res.2.2.2.2.2.2.2.2.2.2.1, res.2.2.2.2.2.2.2.2.2.2.2.1) (p2_paths, p2_water, p2_wall, p2_kind, p2_place, p2_facing, p2_age, p2_seeds, p2_season, p2_z, p2_spots), w_isKept, (t_bytes, t_length, t_sort, t_start, t_end, t_value), (h_numbers, h_bits, h_size), res.2.2.2.2.2.2.2.2.2.2.2.2)) (gA g)) ([.ref (ga g 0), .int a1, .int a2, .int a3] : List Value).toArray s 0 0 (gA g)) (F0 m 62 ls [])) (fun v20 => ∀ (H : Heap) (locs : List Loc) (ls : Array Slot), va_P g.1 vwCl (cw g (pk3 (p0_paths, p0_water, p0_wall, p0_kind, p0_place, p0_facing, p0_age, p0_seeds, p0_season, p0_z, p0_spots) (v20.2.2.1, v20.2.2.2.1, v20.2.2.2.2.1, v20.2.2.2.2.2.1, v20.2.2.2.2.2.2.1, v20.2.2.2.2.2.2.2.1, v20.2.2.2.2.2.2.2.2.1, v20.2.2.2.2.2.2.2.2.2.1, v20.2.2.2.2.2.2.2.2.2.2.1, v20.2.2.2.2.2.2.2.2.2.2.2.1, v20.2.2.2.2.2.2.2.2.2.2.2.2) (p2_paths, p2_water, p2_wall, p2_kind, p2_place, p2_facing, p2_age, p2_seeds, p2_season, p2_z, p2_spots), w_isKept, (t_bytes, t_length, t_sort, t_start, t_end, t_value), (h_numbers, h_bits, h_size), w_told)) H → va_S (gA g) s.heap H locs → lv_has ls 7 [(5, .int v20.1)] → W p l e (headSpec wsX6_fits ({ frames := 7, cells := 0, slots := 0, locals := 163 })).room s m ([.ref (ga g 0), .int a1, .int a2, .int a3] : List Value).toArray below meth c H locs 0 0 (MQ below (qW (some (.int res.1)) True g.1 (cw g (pk3 (p0_paths, p0_water, p0_wall, p0_kind, p0_place, p0_facing, p0_age, p0_seeds, p0_season, p0_z, p0_spots) (res.2.1, res.2.2.1, res.2.2.2.1, res.2.2.2.2.1, res.2.2.2.2.2.1, res.2.2.2.2.2.2.1, res.2.2.2.2.2.2.2.1, res.2.2.2.2.2.2.2.2.1, res.2.2.2.2.2.2.2.2.2.1, res.2.2.2.2.2.2.2.2.2.2.1, res.2.2.2.2.2.2.2.2.2.2.2.1) (p2_paths, p2_water, p2_wall, p2_kind, p2_place, p2_facing, p2_age, p2_seeds, p2_season, p2_z, p2_spots), w_isKept, (t_bytes, t_length, t_sort, t_start, t_end, t_value), (h_numbers, h_bits, h_size), res.2.2.2.2.2.2.2.2.2.2.2.2)) (gA g)) ([.ref (ga g 0), .int a1, .int a2, .int a3] : List Value).toArray s 0 0 (gA g)) (F0 m 109 ls [])) ?_ ?_ _ _ _ hP hS (lv_sub hl [3, 5, 6, 2, 1, 0] rfl)
          · intro v20 hf H locs ls hP hS hl
            refine lv_iload hx hb dX6_fits_109 (lv_at hl 0 rfl) ?_
            have hres : (v20.1, v20.2.2.1, v20.2.2.2.1, v20.2.2.2.2.1, v20.2.2.2.2.2.1, v20.2.2.2.2.2.2.1, v20.2.2.2.2.2.2.2.1, v20.2.2.2.2.2.2.2.2.1, v20.2.2.2.2.2.2.2.2.2.1, v20.2.2.2.2.2.2.2.2.2.2.1, v20.2.2.2.2.2.2.2.2.2.2.2.1, v20.2.2.2.2.2.2.2.2.2.2.2.2, w_told) = res := (Option.some.inj hf)
            have hP := w_eq (congrArg (fun z => cw g (pk3 (p0_paths, p0_water, p0_wall, p0_kind, p0_place, p0_facing, p0_age, p0_seeds, p0_season, p0_z, p0_spots) (z.2.1, z.2.2.1, z.2.2.2.1, z.2.2.2.2.1, z.2.2.2.2.2.1, z.2.2.2.2.2.2.1, z.2.2.2.2.2.2.2.1, z.2.2.2.2.2.2.2.2.1, z.2.2.2.2.2.2.2.2.2.1, z.2.2.2.2.2.2.2.2.2.2.1, z.2.2.2.2.2.2.2.2.2.2.2.1) (p2_paths, p2_water, p2_wall, p2_kind, p2_place, p2_facing, p2_age, p2_seeds, p2_season, p2_z, p2_spots), w_isKept, (t_bytes, t_length, t_sort, t_start, t_end, t_value), (h_numbers, h_bits, h_size), z.2.2.2.2.2.2.2.2.2.2.2.2)) hres) hP
            exact W.iret (v := v20.1) hx hb hr (fun t ht hW => ⟨congrArg (fun z => Outcome.returned (some (Value.int z.1))) hres, trivial, by rw [ht]; exact hP, hS.F ht⟩) hS.2.2 dX6_fits_111
          · intro s19 r1 hf hback1 hexit1 H locs ls hP hS hl
            refine lv_iload hx hb dX6_fits_62 (lv_at hl 5 rfl) ?_
            refine lv_bipush (v := (7 : Int32)) hx hb dX6_fits_64 (by decide) ?_
            refine lv_icmp_ge (tgt := 109) hx hb dX6_fits_66 (by decide) (fun hc21 => ?_) (fun hc21 => ?_)
            · have hf := (if_pos hc21).symm.trans hf
              exact hexit1 (s19.1, s19.2.1, s19.2.2.1, s19.2.2.2.1, s19.2.2.2.2.1, s19.2.2.2.2.2.1, s19.2.2.2.2.2.2.1, s19.2.2.2.2.2.2.2.1, s19.2.2.2.2.2.2.2.2.1, s19.2.2.2.2.2.2.2.2.2.1, s19.2.2.2.2.2.2.2.2.2.2.1, s19.2.2.2.2.2.2.2.2.2.2.2.1, s19.2.2.2.2.2.2.2.2.2.2.2.2) (Option.some.inj hf).symm H locs ls hP hS (lv_sub hl [4] rfl)
            · have hf := (if_neg hc21).symm.trans hf
              refine lv_aload_n hx hb dX6_fits_69 rfl (lv_at hl 0 rfl) ?_
              refine va_get (D := g.1) (ci := 4) (v := .ref (ga g (1 + 1))) (C := RX6) (T := TX6) (N := 7) hx hb hts iwX6 hown hK hP 0 q_sp rfl 1 (by decide) hw1 (fun _ h9 => h9) rfl dX6_fits_70 ?_
              refine lv_aload_n hx hb dX6_fits_73 rfl (lv_at hl 0 rfl) ?_
              refine va_get (D := g.1) (ci := 4) (v := .ref (ga g (1 + 0))) (C := RX6) (T := TX6) (N := 7) hx hb hts iwX6 hown hK hP 0 q_sp rfl 0 (by decide) hw0 (fun _ h9 => h9) rfl dX6_fits_74 ?_
              refine lv_iload_n hx hb dX6_fits_77 rfl (lv_at hl 1 rfl) ?_
              refine lv_iconst (v := (0 : Int32)) hx hb dX6_fits_78 (by decide) ?_
              refine lv_iload hx hb dX6_fits_79 (lv_at hl 5 rfl) ?_
              obtain ⟨q22, hq22, hf⟩ := bd_some hf
              refine kr_W (st1 := []) (va_runV (As := [.ref (ga g (1 + 0)), .int a2, .int (0 : Int32), .int s19.2.1]) (rest := []) ⟨hx, hb, hml, hown, hts⟩ (ct_X2_copyWith l n g (fun P => (pk3 (p0_paths, p0_water, p0_wall, p0_kind, p0_place, p0_facing, p0_age, p0_seeds, p0_season, p0_z, p0_spots) P (p2_paths, p2_water, p2_wall, p2_kind, p2_place, p2_facing, p2_age, p2_seeds, p2_season, p2_z, p2_spots), w_isKept, (t_bytes, t_length, t_sort, t_start, t_end, t_value), (h_numbers, h_bits, h_size), w_told)) 1 (by decide) zP1 0 (by decide) (by decide) s19.2.2.1 s19.2.2.2.1 s19.2.2.2.2.1 s19.2.2.2.2.2.1 s19.2.2.2.2.2.2.1 s19.2.2.2.2.2.2.2.1 s19.2.2.2.2.2.2.2.2.1 s19.2.2.2.2.2.2.2.2.2.1 s19.2.2.2.2.2.2.2.2.2.2.1 s19.2.2.2.2.2.2.2.2.2.2.2.1 s19.2.2.2.2.2.2.2.2.2.2.2.2 p0_paths p0_water p0_wall p0_kind p0_place p0_facing p0_age p0_seeds p0_season p0_z p0_spots (fun _ => rfl) a2 (0 : Int32) s19.2.1 q22 hq22) (cwV 4 hts gX6_fits_X2_copyWith rfl rfl rfl hd_X2_copyWith ⟨Nat.le_of_ble_eq_true rfl, Nat.le_of_ble_eq_true rfl⟩) ⟨bl_C, va_recv hK hP (ci := 0) (q0 := (1 + 1)) rfl (e_pk (by decide) rfl (Q := (s19.2.2.1, s19.2.2.2.1, s19.2.2.2.2.1, s19.2.2.2.2.2.1, s19.2.2.2.2.2.2.1, s19.2.2.2.2.2.2.2.1, s19.2.2.2.2.2.2.2.2.1, s19.2.2.2.2.2.2.2.2.2.1, s19.2.2.2.2.2.2.2.2.2.2.1, s19.2.2.2.2.2.2.2.2.2.2.2.1, s19.2.2.2.2.2.2.2.2.2.2.2.2))), pr_C rfl hB hP hS⟩ rfl rfl hl.1 rfl (lv_room (Nat.le_of_ble_eq_true rfl)) dX6_fits_81 ⟨Nat.le_refl _, Nat.le_refl _⟩) hS rfl (fun hn23 H locs hP hS => ?_)
              have hP : va_P g.1 vwCl (cw g (pk3 (p0_paths, p0_water, p0_wall, p0_kind, p0_place, p0_facing, p0_age, p0_seeds, p0_season, p0_z, p0_spots) (q22.1, q22.2.1, q22.2.2.1, q22.2.2.2.1, q22.2.2.2.2.1, q22.2.2.2.2.2.1, q22.2.2.2.2.2.2.1, q22.2.2.2.2.2.2.2.1, q22.2.2.2.2.2.2.2.2.1, q22.2.2.2.2.2.2.2.2.2.1, q22.2.2.2.2.2.2.2.2.2.2) (p2_paths, p2_water, p2_wall, p2_kind, p2_place, p2_facing, p2_age, p2_seeds, p2_season, p2_z, p2_spots), w_isKept, (t_bytes, t_length, t_sort, t_start, t_end, t_value), (h_numbers, h_bits, h_size), w_told)) H := hP
              refine lv_aload_n hx hb dX6_fits_84 rfl (lv_at hl 0 rfl) ?_
              refine lv_aload hx hb dX6_fits_85 (lv_at hl 3 rfl) ?_
              refine lv_iload_n hx hb dX6_fits_87 rfl (lv_at hl 2 rfl) ?_
              obtain ⟨q24, hq24, hf⟩ := bd_some hf
              refine kr_W (st1 := [.int q24.1]) (va_runV (As := [.ref (ga g (8 + j3)), .int a3]) (rest := []) ⟨hx, hb, hml, hown, hts⟩ (ct_X6_trialGoesAsTold l n g p0_paths p0_water p0_wall p0_kind p0_place p0_facing p0_age p0_seeds p0_season p0_z p0_spots q22.1 q22.2.1 q22.2.2.1 q22.2.2.2.1 q22.2.2.2.2.1 q22.2.2.2.2.2.1 q22.2.2.2.2.2.2.1 q22.2.2.2.2.2.2.2.1 q22.2.2.2.2.2.2.2.2.1 q22.2.2.2.2.2.2.2.2.2.1 q22.2.2.2.2.2.2.2.2.2.2 p2_paths p2_water p2_wall p2_kind p2_place p2_facing p2_age p2_seeds p2_season p2_z p2_spots t_bytes t_length t_sort t_start t_end t_value h_numbers h_bits h_size w_isKept w_told j3 hj4 a3 q24 hq24) (cwV 2 hts gX6_fits_X6_trialGoesAsTold rfl rfl rfl hd_X6_trialGoesAsTold ⟨Nat.le_of_ble_eq_true rfl, Nat.le_of_ble_eq_true rfl⟩) ⟨bl_C, va_recv hK hP (ci := 4) (q0 := 0) rfl q_sp, pr_C rfl hB hP hS⟩ rfl rfl hl.1 rfl (lv_room (Nat.le_of_ble_eq_true rfl)) dX6_fits_88 ⟨Nat.le_refl _, Nat.le_refl _⟩) hS rfl (fun hn25 H locs hP hS => ?_)
              have hP : va_P g.1 vwCl (cw g (pk3 (p0_paths, p0_water, p0_wall, p0_kind, p0_place, p0_facing, p0_age, p0_seeds, p0_season, p0_z, p0_spots) (q24.2.1, q22.2.1, q22.2.2.1, q22.2.2.2.1, q24.2.2.1, q24.2.2.2.1, q24.2.2.2.2.1, q22.2.2.2.2.2.2.2.1, q24.2.2.2.2.2, q22.2.2.2.2.2.2.2.2.2.1, q22.2.2.2.2.2.2.2.2.2.2) (p2_paths, p2_water, p2_wall, p2_kind, p2_place, p2_facing, p2_age, p2_seeds, p2_season, p2_z, p2_spots), w_isKept, (t_bytes, t_length, t_sort, t_start, t_end, t_value), (h_numbers, h_bits, h_size), w_told)) H := hP
              refine lv_if_eq (tgt := 103) hx hb dX6_fits_91 (by decide) (fun hc26 => ?_) (fun hc26 => ?_)
              · have hf := (if_pos hc26).symm.trans hf
                refine lv_iinc (v := (s19.2.1 + (1 : Int32))) (lv' := [(6, .int (s19.2.1 + (1 : Int32))), (0, .ref (ga g 0)), (2, .int a2), (3, .int a3), (4, .ref (ga g (8 + j3))), (5, .int s19.1)]) hx hb dX6_fits_103 hl (k := 5) rfl (congrArg (fun y => s19.2.1 + y) (by decide : Int32.ofInt (1) = (1 : Int32))) (by decide) rfl (fun ls hl => ?_)
                refine lv_goto (tgt := 62) hx hb dX6_fits_106 (by decide) ?_
                exact hback1 _ (Option.some.inj hf).symm H locs ls hP hS (lv_sub hl [1, 2, 3, 4, 5, 0] rfl)
              · have hf := (if_neg hc26).symm.trans hf
                refine lv_iload hx hb dX6_fits_94 (lv_at hl 4 rfl) ?_
                refine lv_iconst (v := (1 : Int32)) hx hb dX6_fits_96 (by decide) ?_
                refine lv_iload hx hb dX6_fits_97 (lv_at hl 5 rfl) ?_
                refine lv_ishl hx hb dX6_fits_99 ?_
                refine lv_ior hx hb dX6_fits_100 ?_
                refine lv_istore (lv' := [(5, .int (s19.1 ||| ((1 : Int32) <<< (s19.2.1 &&& 31)))), (0, .ref (ga g 0)), (2, .int a2), (3, .int a3), (4, .ref (ga g (8 + j3))), (6, .int s19.2.1)]) hx hb dX6_fits_101 hl (by decide) rfl (fun ls hl => ?_)
                refine lv_iinc (v := (s19.2.1 + (1 : Int32))) (lv' := [(6, .int (s19.2.1 + (1 : Int32))), (5, .int (s19.1 ||| ((1 : Int32) <<< (s19.2.1 &&& 31)))), (0, .ref (ga g 0)), (2, .int a2), (3, .int a3), (4, .ref (ga g (8 + j3)))]) hx hb dX6_fits_103 hl (k := 5) rfl (congrArg (fun y => s19.2.1 + y) (by decide : Int32.ofInt (1) = (1 : Int32))) (by decide) rfl (fun ls hl => ?_)
                refine lv_goto (tgt := 62) hx hb dX6_fits_106 (by decide) ?_
                exact hback1 _ (Option.some.inj hf).symm H locs ls hP hS (lv_sub hl [2, 3, 4, 5, 1, 0] rfl)
        · have hf := (if_pos hc18).symm.trans hf
          refine lv_aload_n hx hb dX6_fits_50 rfl (lv_at hl 1 rfl) ?_
          refine lv_iconst (v := (0 : Int32)) hx hb dX6_fits_51 (by decide) ?_
          obtain ⟨q27, hq27, hf⟩ := bd_some hf
          refine kr_W (st1 := [.int q27.1]) (va_runV (As := [.int (0 : Int32)]) (rest := []) ⟨hx, hb, hml, hown, hts⟩ (ct_X6_finding l n g p0_paths p0_water p0_wall p0_kind p0_place p0_facing p0_age p0_seeds p0_season p0_z p0_spots p1_paths p1_water p1_wall p1_kind p1_place p1_facing p1_age p1_seeds p1_season p1_z p1_spots p2_paths p2_water p2_wall p2_kind p2_place p2_facing p2_age p2_seeds p2_season p2_z p2_spots t_bytes t_length t_sort t_start t_end t_value h_numbers h_bits h_size w_isKept w_told (0 : Int32) q27 hq27) (cwV 1 hts gX6_fits_X6_finding rfl rfl rfl hd_X6_finding ⟨Nat.le_of_ble_eq_true rfl, Nat.le_of_ble_eq_true rfl⟩) ⟨bl_C, va_recv hK hP (ci := 4) (q0 := 0) rfl q_sp, pr_C rfl hB hP hS⟩ rfl rfl hl.1 rfl (lv_room (Nat.le_of_ble_eq_true rfl)) dX6_fits_52 ⟨Nat.le_refl _, Nat.le_refl _⟩) hS rfl (fun hn28 H locs hP hS => ?_)
          have hP : va_P g.1 vwCl (cw g (pk3 (p0_paths, p0_water, p0_wall, p0_kind, p0_place, p0_facing, p0_age, p0_seeds, p0_season, p0_z, p0_spots) (p1_paths, p1_water, p1_wall, p1_kind, p1_place, p1_facing, p1_age, p1_seeds, p1_season, p1_z, p1_spots) (p2_paths, p2_water, p2_wall, p2_kind, p2_place, p2_facing, p2_age, p2_seeds, p2_season, p2_z, p2_spots), w_isKept, (t_bytes, t_length, t_sort, t_start, t_end, t_value), (h_numbers, h_bits, h_size), q27.2)) H := hP
          have hres : (q27.1, p1_paths, p1_water, p1_wall, p1_kind, p1_place, p1_facing, p1_age, p1_seeds, p1_season, p1_z, p1_spots, q27.2) = res := (Option.some.inj hf)
          have hP := w_eq (congrArg (fun z => cw g (pk3 (p0_paths, p0_water, p0_wall, p0_kind, p0_place, p0_facing, p0_age, p0_seeds, p0_season, p0_z, p0_spots) (z.2.1, z.2.2.1, z.2.2.2.1, z.2.2.2.2.1, z.2.2.2.2.2.1, z.2.2.2.2.2.2.1, z.2.2.2.2.2.2.2.1, z.2.2.2.2.2.2.2.2.1, z.2.2.2.2.2.2.2.2.2.1, z.2.2.2.2.2.2.2.2.2.2.1, z.2.2.2.2.2.2.2.2.2.2.2.1) (p2_paths, p2_water, p2_wall, p2_kind, p2_place, p2_facing, p2_age, p2_seeds, p2_season, p2_z, p2_spots), w_isKept, (t_bytes, t_length, t_sort, t_start, t_end, t_value), (h_numbers, h_bits, h_size), z.2.2.2.2.2.2.2.2.2.2.2.2)) hres) hP
          exact W.iret (v := q27.1) hx hb hr (fun t ht hW => ⟨congrArg (fun z => Outcome.returned (some (Value.int z.1))) hres, trivial, by rw [ht]; exact hP, hS.F ht⟩) hS.2.2 dX6_fits_55
    · have hf := (if_neg hc9).symm.trans hf
      refine lv_aload_n hx hb dX6_fits_26 rfl (lv_at hl 1 rfl) ?_
      refine lv_iconst (v := (5 : Int32)) hx hb dX6_fits_27 (by decide) ?_
      obtain ⟨q29, hq29, hf⟩ := bd_some hf
      refine kr_W (st1 := [.int q29.1]) (va_runV (As := [.int (5 : Int32)]) (rest := []) ⟨hx, hb, hml, hown, hts⟩ (ct_X6_finding l n g p0_paths p0_water p0_wall p0_kind p0_place p0_facing p0_age p0_seeds p0_season p0_z p0_spots p1_paths p1_water p1_wall p1_kind p1_place p1_facing p1_age p1_seeds p1_season p1_z p1_spots p2_paths p2_water p2_wall p2_kind p2_place p2_facing p2_age p2_seeds p2_season p2_z p2_spots t_bytes t_length t_sort t_start t_end t_value h_numbers h_bits h_size w_isKept w_told (5 : Int32) q29 hq29) (cwV 1 hts gX6_fits_X6_finding rfl rfl rfl hd_X6_finding ⟨Nat.le_of_ble_eq_true rfl, Nat.le_of_ble_eq_true rfl⟩) ⟨bl_C, va_recv hK hP (ci := 4) (q0 := 0) rfl q_sp, pr_C rfl hB hP hS⟩ rfl rfl hl.1 rfl (lv_room (Nat.le_of_ble_eq_true rfl)) dX6_fits_28 ⟨Nat.le_refl _, Nat.le_refl _⟩) hS rfl (fun hn30 H locs hP hS => ?_)
      have hP : va_P g.1 vwCl (cw g (pk3 (p0_paths, p0_water, p0_wall, p0_kind, p0_place, p0_facing, p0_age, p0_seeds, p0_season, p0_z, p0_spots) (p1_paths, p1_water, p1_wall, p1_kind, p1_place, p1_facing, p1_age, p1_seeds, p1_season, p1_z, p1_spots) (p2_paths, p2_water, p2_wall, p2_kind, p2_place, p2_facing, p2_age, p2_seeds, p2_season, p2_z, p2_spots), w_isKept, (t_bytes, t_length, t_sort, t_start, t_end, t_value), (h_numbers, h_bits, h_size), q29.2)) H := hP
      have hres : (q29.1, p1_paths, p1_water, p1_wall, p1_kind, p1_place, p1_facing, p1_age, p1_seeds, p1_season, p1_z, p1_spots, q29.2) = res := (Option.some.inj hf)
      have hP := w_eq (congrArg (fun z => cw g (pk3 (p0_paths, p0_water, p0_wall, p0_kind, p0_place, p0_facing, p0_age, p0_seeds, p0_season, p0_z, p0_spots) (z.2.1, z.2.2.1, z.2.2.2.1, z.2.2.2.2.1, z.2.2.2.2.2.1, z.2.2.2.2.2.2.1, z.2.2.2.2.2.2.2.1, z.2.2.2.2.2.2.2.2.1, z.2.2.2.2.2.2.2.2.2.1, z.2.2.2.2.2.2.2.2.2.2.1, z.2.2.2.2.2.2.2.2.2.2.2.1) (p2_paths, p2_water, p2_wall, p2_kind, p2_place, p2_facing, p2_age, p2_seeds, p2_season, p2_z, p2_spots), w_isKept, (t_bytes, t_length, t_sort, t_start, t_end, t_value), (h_numbers, h_bits, h_size), z.2.2.2.2.2.2.2.2.2.2.2.2)) hres) hP
      exact W.iret (v := q29.1) hx hb hr (fun t ht hW => ⟨congrArg (fun z => Outcome.returned (some (Value.int z.1))) hres, trivial, by rw [ht]; exact hP, hS.F ht⟩) hS.2.2 dX6_fits_31
set_option maxHeartbeats 4000000 in
set_option maxRecDepth 100000 in
theorem ct_X6_headings (l : Launch) (n : Nat) (g : GC) (p0_paths : Nat → Int32) (p0_water : Int64) (p0_wall : Int64) (p0_kind : Nat → Int32) (p0_place : Nat → Int32) (p0_facing : Nat → Int32) (p0_age : Nat → Int32) (p0_seeds : Int32) (p0_season : Int32) (p0_z : Int32) (p0_spots : Nat → Int32) (p1_paths : Nat → Int32) (p1_water : Int64) (p1_wall : Int64) (p1_kind : Nat → Int32) (p1_place : Nat → Int32) (p1_facing : Nat → Int32) (p1_age : Nat → Int32) (p1_seeds : Int32) (p1_season : Int32) (p1_z : Int32) (p1_spots : Nat → Int32) (p2_paths : Nat → Int32) (p2_water : Int64) (p2_wall : Int64) (p2_kind : Nat → Int32) (p2_place : Nat → Int32) (p2_facing : Nat → Int32) (p2_age : Nat → Int32) (p2_seeds : Int32) (p2_season : Int32) (p2_z : Int32) (p2_spots : Nat → Int32) (t_bytes : Nat → Int32) (t_length : Int32) (t_sort : Int32) (t_start : Int32) (t_end : Int32) (t_value : Int32) (h_numbers : Nat → Nat → Int32) (h_bits : Nat → Int32) (h_size : Nat → Int32) (w_isKept : Int32) (w_told : Nat → Int32) (a1 : Int32) (a2 : Int32) (a3 : Int32) (res : Int32 × (Nat → Int32) × Int64 × Int64 × (Nat → Int32) × (Nat → Int32) × (Nat → Int32) × (Nat → Int32) × Int32 × Int32 × Int32 × (Nat → Int32) × (Nat → Int32)) (hf : fX6_headings n a1 a2 a3 p0_paths p0_water p0_wall p0_kind p0_place p0_facing p0_age p0_seeds p0_season p0_z p0_spots p1_paths p1_water p1_wall p1_kind p1_place p1_facing p1_age p1_seeds p1_season p1_z p1_spots h_numbers h_bits h_size w_told = some res) : Met l yX6_headings wsX6_headings ({ frames := 7, cells := 0, slots := 0, locals := 163 }) (va_Pc [.ref (ga g 0), .int a1, .int a2, .int a3] (cI g (pk3 (p0_paths, p0_water, p0_wall, p0_kind, p0_place, p0_facing, p0_age, p0_seeds, p0_season, p0_z, p0_spots) (p1_paths, p1_water, p1_wall, p1_kind, p1_place, p1_facing, p1_age, p1_seeds, p1_season, p1_z, p1_spots) (p2_paths, p2_water, p2_wall, p2_kind, p2_place, p2_facing, p2_age, p2_seeds, p2_season, p2_z, p2_spots), w_isKept, (t_bytes, t_length, t_sort, t_start, t_end, t_value), (h_numbers, h_bits, h_size), w_told))) (qW (some (.int res.1)) True g.1 (cw g (pk3 (p0_paths, p0_water, p0_wall, p0_kind, p0_place, p0_facing, p0_age, p0_seeds, p0_season, p0_z, p0_spots) (res.2.1, res.2.2.1, res.2.2.2.1, res.2.2.2.2.1, res.2.2.2.2.2.1, res.2.2.2.2.2.2.1, res.2.2.2.2.2.2.2.1, res.2.2.2.2.2.2.2.2.1, res.2.2.2.2.2.2.2.2.2.1, res.2.2.2.2.2.2.2.2.2.2.1, res.2.2.2.2.2.2.2.2.2.2.2.1) (p2_paths, p2_water, p2_wall, p2_kind, p2_place, p2_facing, p2_age, p2_seeds, p2_season, p2_z, p2_spots), w_isKept, (t_bytes, t_length, t_sort, t_start, t_end, t_value), (h_numbers, h_bits, h_size), res.2.2.2.2.2.2.2.2.2.2.2.2)) (gA g)) 0 0 (gA g) := by
  refine Met.ofW (cc := cX6_headings) (maxL := 7) (ret := (some .int)) (by decide) rfl ?_
  intro p e s m args below meth c s₁ B hml hv
  obtain ⟨rfl, hI⟩ := hv
  have hx := B.exec
  have hb := B.bytes
  have hr := B.returns
  have hts := atoms_spec (ws := wsX6_headings) B.pre
  have hown : s.vm.findClass RX6 = some m.cls := findClass_of_methodNamed B.named
  have hlocks := B.notSynchronized
  have hP := hI.1
  have hB := hI.2
  have hK := hB.1
  have hNW := hB.2.1
  have hS : va_S (gA g) s.heap s.heap [] := va_S.rf
  have hw0 := hts (.fieldLink RX6 10 "SownPaths" "park" "LSownPaths$Park;") (by decide +kernel)
  have hw1 := hts (.fieldLink RX6 16 "SownPaths" "trial" "LSownPaths$Park;") (by decide +kernel)
  have iwX6 : ∀ w ∈ wsX60, w ∈ wsX6_headings := fun w h => List.mem_cons_of_mem _ (List.mem_append_left _ (List.mem_append_left _ (List.mem_append_left _ (List.mem_append_right _ h))))
  have hl := lv_entry ([.ref (ga g 0), .int a1, .int a2, .int a3]) (n := 7) (Nat.le_of_ble_eq_true rfl)
  rw [lg_entry_eq]
  generalize (lg_sl ([.ref (ga g 0), .int a1, .int a2, .int a3]) ++ List.replicate (7 - (lg_sl ([.ref (ga g 0), .int a1, .int a2, .int a3])).length) Slot.unset).toArray = ls at hl ⊢
  have hl : lv_has ls 7 [(0, .ref (ga g 0)), (1, .int a1), (2, .int a2), (3, .int a3)] := hl
  unfold fX6_headings at hf
  refine lv_aload_n hx hb dX6_headings_0 rfl (lv_at hl 0 rfl) ?_
  refine lv_iload_n hx hb dX6_headings_1 rfl (lv_at hl 1 rfl) ?_
  obtain ⟨q1, hq1, hf⟩ := bd_some hf
  refine kr_S (st1 := [va_rf (Option.map (fun j => ga g (8 + j)) q1)]) (va_runV (As := [.int a1]) (rest := []) ⟨hx, hb, hml, hown, hts⟩ (ct_X6_sheetAt l n g p0_paths p0_water p0_wall p0_kind p0_place p0_facing p0_age p0_seeds p0_season p0_z p0_spots p1_paths p1_water p1_wall p1_kind p1_place p1_facing p1_age p1_seeds p1_season p1_z p1_spots p2_paths p2_water p2_wall p2_kind p2_place p2_facing p2_age p2_seeds p2_season p2_z p2_spots t_bytes t_length t_sort t_start t_end t_value h_numbers h_bits h_size w_isKept w_told a1 q1 hq1) (cwV 1 hts gX6_headings_X6_sheetAt rfl rfl rfl hd_X6_sheetAt ⟨Nat.le_of_ble_eq_true rfl, Nat.le_of_ble_eq_true rfl⟩) ⟨bl_C, va_recv hK hP (ci := 4) (q0 := 0) rfl q_sp, pr_C rfl hB hP hS⟩ rfl rfl hl.1 rfl (lv_room (Nat.le_of_ble_eq_true rfl)) dX6_headings_2 ⟨Nat.le_refl _, Nat.le_refl _⟩) rfl (fun hn2 => ?_)
  rcases q1 with _ | j3
  · have hf := eo_n hf
    refine W.eq (g2 := F0 m 5 ls [.null]) rfl ?_
    refine lv_astoreN (lv' := [(4, .null), (0, .ref (ga g 0)), (1, .int a1), (2, .int a2), (3, .int a3)]) hx hb dX6_headings_5 hl (by decide) rfl (fun ls hl => ?_)
    refine lv_aloadN hx hb dX6_headings_7 (lv_at hl 0 rfl) ?_
    refine lv_ifnonnullN hx hb dX6_headings_9 ?_
    refine lv_aload_n hx hb dX6_headings_12 rfl (lv_at hl 1 rfl) ?_
    refine lv_iconst (v := (0 : Int32)) hx hb dX6_headings_13 (by decide) ?_
    obtain ⟨q5, hq5, hf⟩ := bd_some hf
    refine kr_W (st1 := [.int q5.1]) (va_runV (As := [.int (0 : Int32)]) (rest := []) ⟨hx, hb, hml, hown, hts⟩ (ct_X6_finding l n g p0_paths p0_water p0_wall p0_kind p0_place p0_facing p0_age p0_seeds p0_season p0_z p0_spots p1_paths p1_water p1_wall p1_kind p1_place p1_facing p1_age p1_seeds p1_season p1_z p1_spots p2_paths p2_water p2_wall p2_kind p2_place p2_facing p2_age p2_seeds p2_season p2_z p2_spots t_bytes t_length t_sort t_start t_end t_value h_numbers h_bits h_size w_isKept w_told (0 : Int32) q5 hq5) (cwV 1 hts gX6_headings_X6_finding rfl rfl rfl hd_X6_finding ⟨Nat.le_of_ble_eq_true rfl, Nat.le_of_ble_eq_true rfl⟩) ⟨bl_C, va_recv hK hP (ci := 4) (q0 := 0) rfl q_sp, pr_C rfl hB hP hS⟩ rfl rfl hl.1 rfl (lv_room (Nat.le_of_ble_eq_true rfl)) dX6_headings_14 ⟨Nat.le_refl _, Nat.le_refl _⟩) hS rfl (fun hn6 H locs hP hS => ?_)
    have hP : va_P g.1 vwCl (cw g (pk3 (p0_paths, p0_water, p0_wall, p0_kind, p0_place, p0_facing, p0_age, p0_seeds, p0_season, p0_z, p0_spots) (p1_paths, p1_water, p1_wall, p1_kind, p1_place, p1_facing, p1_age, p1_seeds, p1_season, p1_z, p1_spots) (p2_paths, p2_water, p2_wall, p2_kind, p2_place, p2_facing, p2_age, p2_seeds, p2_season, p2_z, p2_spots), w_isKept, (t_bytes, t_length, t_sort, t_start, t_end, t_value), (h_numbers, h_bits, h_size), q5.2)) H := hP
    have hres : (q5.1, p1_paths, p1_water, p1_wall, p1_kind, p1_place, p1_facing, p1_age, p1_seeds, p1_season, p1_z, p1_spots, q5.2) = res := (Option.some.inj hf)
    have hP := w_eq (congrArg (fun z => cw g (pk3 (p0_paths, p0_water, p0_wall, p0_kind, p0_place, p0_facing, p0_age, p0_seeds, p0_season, p0_z, p0_spots) (z.2.1, z.2.2.1, z.2.2.2.1, z.2.2.2.2.1, z.2.2.2.2.2.1, z.2.2.2.2.2.2.1, z.2.2.2.2.2.2.2.1, z.2.2.2.2.2.2.2.2.1, z.2.2.2.2.2.2.2.2.2.1, z.2.2.2.2.2.2.2.2.2.2.1, z.2.2.2.2.2.2.2.2.2.2.2.1) (p2_paths, p2_water, p2_wall, p2_kind, p2_place, p2_facing, p2_age, p2_seeds, p2_season, p2_z, p2_spots), w_isKept, (t_bytes, t_length, t_sort, t_start, t_end, t_value), (h_numbers, h_bits, h_size), z.2.2.2.2.2.2.2.2.2.2.2.2)) hres) hP
    exact W.iret (v := q5.1) hx hb hr (fun t ht hW => ⟨congrArg (fun z => Outcome.returned (some (Value.int z.1))) hres, trivial, by rw [ht]; exact hP, hS.F ht⟩) hS.2.2 dX6_headings_17
  · have hf := eo_s hf
    have hj4 := hn2 _ rfl
    refine W.eq (g2 := F0 m 5 ls [.ref (ga g (8 + j3))]) rfl ?_
    refine lv_astore (lv' := [(4, .ref (ga g (8 + j3))), (0, .ref (ga g 0)), (1, .int a1), (2, .int a2), (3, .int a3)]) hx hb dX6_headings_5 hl (by decide) rfl (fun ls hl => ?_)
    refine lv_aload hx hb dX6_headings_7 (lv_at hl 0 rfl) ?_
    refine lv_ifnonnull (tgt := 18) hx hb dX6_headings_9 (by decide) ?_
    refine lv_aload hx hb dX6_headings_18 (lv_at hl 0 rfl) ?_
    obtain ⟨q7, hq7, hf⟩ := bd_some hf
    refine kr_S (st1 := [.int q7]) (va_runV (As := []) (rest := []) ⟨hx, hb, hml, hown, hts⟩ (ct_X4_isMissing l n g (pk3 (p0_paths, p0_water, p0_wall, p0_kind, p0_place, p0_facing, p0_age, p0_seeds, p0_season, p0_z, p0_spots) (p1_paths, p1_water, p1_wall, p1_kind, p1_place, p1_facing, p1_age, p1_seeds, p1_season, p1_z, p1_spots) (p2_paths, p2_water, p2_wall, p2_kind, p2_place, p2_facing, p2_age, p2_seeds, p2_season, p2_z, p2_spots), w_isKept, (t_bytes, t_length, t_sort, t_start, t_end, t_value), (h_numbers, h_bits, h_size), w_told) h_numbers h_bits h_size rfl j3 hj4 q7 hq7) (cwV 0 hts gX6_headings_X4_isMissing rfl rfl rfl hd_X4_isMissing ⟨Nat.le_of_ble_eq_true rfl, Nat.le_of_ble_eq_true rfl⟩) ⟨bl_C, va_recv hK hP (ci := 2) (q0 := (8 + j3)) rfl (e_sh hj4 rfl (T := (h_numbers, h_bits, h_size))), pr_C rfl hB hP hS⟩ rfl rfl hl.1 rfl (lv_room (Nat.le_of_ble_eq_true rfl)) dX6_headings_20 ⟨Nat.le_refl _, Nat.le_refl _⟩) rfl (fun hn8 => ?_)
    refine lv_if_eq (tgt := 32) hx hb dX6_headings_23 (by decide) (fun hc9 => ?_) (fun hc9 => ?_)
    · have hf := (if_pos hc9).symm.trans hf
      refine lv_aload_n hx hb dX6_headings_32 rfl (lv_at hl 1 rfl) ?_
      refine va_get (D := g.1) (ci := 4) (v := .ref (ga g (1 + 0))) (C := RX6) (T := TX6) (N := 7) hx hb hts iwX6 hown hK hP 0 q_sp rfl 0 (by decide) hw0 (fun _ h9 => h9) rfl dX6_headings_33 ?_
      refine lv_iload_n hx hb dX6_headings_36 rfl (lv_at hl 3 rfl) ?_
      obtain ⟨q10, hq10, hf⟩ := bd_some hf
      refine kr_S (st1 := [va_rf (Option.map (fun j => ga g (25 + 8 * 0 + j)) q10)]) (va_runV (As := [.int a2]) (rest := []) ⟨hx, hb, hml, hown, hts⟩ (ct_X2_seedAt l n g (pk3 (p0_paths, p0_water, p0_wall, p0_kind, p0_place, p0_facing, p0_age, p0_seeds, p0_season, p0_z, p0_spots) (p1_paths, p1_water, p1_wall, p1_kind, p1_place, p1_facing, p1_age, p1_seeds, p1_season, p1_z, p1_spots) (p2_paths, p2_water, p2_wall, p2_kind, p2_place, p2_facing, p2_age, p2_seeds, p2_season, p2_z, p2_spots), w_isKept, (t_bytes, t_length, t_sort, t_start, t_end, t_value), (h_numbers, h_bits, h_size), w_told) 0 (by decide) p0_paths p0_water p0_wall p0_kind p0_place p0_facing p0_age p0_seeds p0_season p0_z p0_spots rfl a2 q10 hq10) (cwV 1 hts gX6_headings_X2_seedAt rfl rfl rfl hd_X2_seedAt ⟨Nat.le_of_ble_eq_true rfl, Nat.le_of_ble_eq_true rfl⟩) ⟨bl_C, va_recv hK hP (ci := 0) (q0 := (1 + 0)) rfl (e_pk (by decide) rfl (Q := (p0_paths, p0_water, p0_wall, p0_kind, p0_place, p0_facing, p0_age, p0_seeds, p0_season, p0_z, p0_spots))), pr_C rfl hB hP hS⟩ rfl rfl hl.1 rfl (lv_room (Nat.le_of_ble_eq_true rfl)) dX6_headings_37 ⟨Nat.le_refl _, Nat.le_refl _⟩) rfl (fun hn11 => ?_)
      rcases q10 with _ | j12
      · have hf := eo_n hf
        refine W.eq (g2 := F0 m 40 ls [.null]) rfl ?_
        refine lv_ifnullN (tgt := 50) hx hb dX6_headings_40 (by decide) ?_
        refine lv_aload_n hx hb dX6_headings_50 rfl (lv_at hl 1 rfl) ?_
        refine lv_iconst (v := (0 : Int32)) hx hb dX6_headings_51 (by decide) ?_
        obtain ⟨q14, hq14, hf⟩ := bd_some hf
        refine kr_W (st1 := [.int q14.1]) (va_runV (As := [.int (0 : Int32)]) (rest := []) ⟨hx, hb, hml, hown, hts⟩ (ct_X6_finding l n g p0_paths p0_water p0_wall p0_kind p0_place p0_facing p0_age p0_seeds p0_season p0_z p0_spots p1_paths p1_water p1_wall p1_kind p1_place p1_facing p1_age p1_seeds p1_season p1_z p1_spots p2_paths p2_water p2_wall p2_kind p2_place p2_facing p2_age p2_seeds p2_season p2_z p2_spots t_bytes t_length t_sort t_start t_end t_value h_numbers h_bits h_size w_isKept w_told (0 : Int32) q14 hq14) (cwV 1 hts gX6_headings_X6_finding rfl rfl rfl hd_X6_finding ⟨Nat.le_of_ble_eq_true rfl, Nat.le_of_ble_eq_true rfl⟩) ⟨bl_C, va_recv hK hP (ci := 4) (q0 := 0) rfl q_sp, pr_C rfl hB hP hS⟩ rfl rfl hl.1 rfl (lv_room (Nat.le_of_ble_eq_true rfl)) dX6_headings_52 ⟨Nat.le_refl _, Nat.le_refl _⟩) hS rfl (fun hn15 H locs hP hS => ?_)
        have hP : va_P g.1 vwCl (cw g (pk3 (p0_paths, p0_water, p0_wall, p0_kind, p0_place, p0_facing, p0_age, p0_seeds, p0_season, p0_z, p0_spots) (p1_paths, p1_water, p1_wall, p1_kind, p1_place, p1_facing, p1_age, p1_seeds, p1_season, p1_z, p1_spots) (p2_paths, p2_water, p2_wall, p2_kind, p2_place, p2_facing, p2_age, p2_seeds, p2_season, p2_z, p2_spots), w_isKept, (t_bytes, t_length, t_sort, t_start, t_end, t_value), (h_numbers, h_bits, h_size), q14.2)) H := hP
        have hres : (q14.1, p1_paths, p1_water, p1_wall, p1_kind, p1_place, p1_facing, p1_age, p1_seeds, p1_season, p1_z, p1_spots, q14.2) = res := (Option.some.inj hf)
        have hP := w_eq (congrArg (fun z => cw g (pk3 (p0_paths, p0_water, p0_wall, p0_kind, p0_place, p0_facing, p0_age, p0_seeds, p0_season, p0_z, p0_spots) (z.2.1, z.2.2.1, z.2.2.2.1, z.2.2.2.2.1, z.2.2.2.2.2.1, z.2.2.2.2.2.2.1, z.2.2.2.2.2.2.2.1, z.2.2.2.2.2.2.2.2.1, z.2.2.2.2.2.2.2.2.2.1, z.2.2.2.2.2.2.2.2.2.2.1, z.2.2.2.2.2.2.2.2.2.2.2.1) (p2_paths, p2_water, p2_wall, p2_kind, p2_place, p2_facing, p2_age, p2_seeds, p2_season, p2_z, p2_spots), w_isKept, (t_bytes, t_length, t_sort, t_start, t_end, t_value), (h_numbers, h_bits, h_size), z.2.2.2.2.2.2.2.2.2.2.2.2)) hres) hP
        exact W.iret (v := q14.1) hx hb hr (fun t ht hW => ⟨congrArg (fun z => Outcome.returned (some (Value.int z.1))) hres, trivial, by rw [ht]; exact hP, hS.F ht⟩) hS.2.2 dX6_headings_55
      · have hf := eo_s hf
        have hj13 := hn11 _ rfl
        refine W.eq (g2 := F0 m 40 ls [.ref (ga g (25 + 8 * 0 + j12))]) rfl ?_
        refine lv_ifnull hx hb dX6_headings_40 ?_
        refine lv_iload_n hx hb dX6_headings_43 rfl (lv_at hl 4 rfl) ?_
        obtain ⟨q16, hq16, hf⟩ := bd_some hf
        refine kr_S (st1 := [.int q16]) (va_runS (As := [.int a3]) (rest := []) ⟨hx, hb, hml, hown, hts⟩ (ct_X6_isCell l n a3 q16 hq16) (va_cwS 1 hts gX6_headings_X6_isCell rfl rfl rfl hn_X6_isCell ⟨Nat.le_of_ble_eq_true rfl, Nat.le_of_ble_eq_true rfl⟩) ⟨bl_N, pr_N rfl hNW⟩ rfl rfl hl.1 rfl (lv_room (Nat.le_of_ble_eq_true rfl)) dX6_headings_44 ⟨Nat.le_refl _, Nat.le_refl _⟩) rfl (fun hn17 => ?_)
        refine lv_if_ne (tgt := 56) hx hb dX6_headings_47 (by decide) (fun hc18 => ?_) (fun hc18 => ?_)
        · have hf := (if_neg hc18).symm.trans hf
          refine lv_iconst (v := (0 : Int32)) hx hb dX6_headings_56 (by decide) ?_
          refine lv_istore (lv' := [(5, .int (0 : Int32)), (4, .ref (ga g (8 + j3))), (0, .ref (ga g 0)), (1, .int a1), (2, .int a2), (3, .int a3)]) hx hb dX6_headings_57 hl (by decide) rfl (fun ls hl => ?_)
          refine lv_iconst (v := (0 : Int32)) hx hb dX6_headings_59 (by decide) ?_
          refine lv_istore (lv' := [(6, .int (0 : Int32)), (5, .int (0 : Int32)), (4, .ref (ga g (8 + j3))), (0, .ref (ga g 0)), (1, .int a1), (2, .int a2), (3, .int a3)]) hx hb dX6_headings_60 hl (by decide) rfl (fun ls hl => ?_)
          refine lp_run hf (fun s19 => ∀ (H : Heap) (locs : List Loc) (ls : Array Slot), va_P g.1 vwCl (cw g (pk3 (p0_paths, p0_water, p0_wall, p0_kind, p0_place, p0_facing, p0_age, p0_seeds, p0_season, p0_z, p0_spots) (s19.2.2.1, s19.2.2.2.1, s19.2.2.2.2.1, s19.2.2.2.2.2.1, s19.2.2.2.2.2.2.1, s19.2.2.2.2.2.2.2.1, s19.2.2.2.2.2.2.2.2.1, s19.2.2.2.2.2.2.2.2.2.1, s19.2.2.2.2.2.2.2.2.2.2.1, s19.2.2.2.2.2.2.2.2.2.2.2.1, s19.2.2.2.2.2.2.2.2.2.2.2.2) (p2_paths, p2_water, p2_wall, p2_kind, p2_place, p2_facing, p2_age, p2_seeds, p2_season, p2_z, p2_spots), w_isKept, (t_bytes, t_length, t_sort, t_start, t_end, t_value), (h_numbers, h_bits, h_size), w_told)) H → va_S (gA g) s.heap H locs → lv_has ls 7 [(0, .ref (ga g 0)), (2, .int a2), (3, .int a3), (4, .ref (ga g (8 + j3))), (5, .int s19.1), (6, .int s19.2.1)] → W p l e (headSpec wsX6_headings ({ frames := 7, cells := 0, slots := 0, locals := 163 })).room s m ([.ref (ga g 0), .int a1, .int a2, .int a3] : List Value).toArray below meth c H locs 0 0 (MQ below (qW (some (.int res.1)) True g.1 (cw g (pk3 (p0_paths, p0_water, p0_wall, p0_kind, p0_place, p0_facing, p0_age, p0_seeds, p0_season, p0_z, p0_spots) (res.2.1, res.2.2.1, res.2.2.2.1, res.2.2.2.2.1, res.2.2.2.2.2.1, res.2.2.2.2.2.2.1, res.2.2.2.2.2.2.2.1, res.2.2.2.2.2.2.2.2.1, res.2.2.2.2.2.2.2.2.2.1, res.2.2.2.2.2.2.2.2.2.2.1, res.2.2.2.2.2.2.2.2.2.2.2.1) (p2_paths, p2_water, p2_wall, p2_kind, p2_place, p2_facing, p2_age, p2_seeds, p2_season, p2_z, p2_spots), w_isKept, (t_bytes, t_length, t_sort, t_start, t_end, t_value), (h_numbers, h_bits, h_size), res.2.2.2.2.2.2.2.2.2.2.2.2)) (gA g)) ([.ref (ga g 0), .int a1, .int a2, .int a3] : List Value).toArray s 0 0 (gA g)) (F0 m 62 ls [])) (fun v20 => ∀ (H : Heap) (locs : List Loc) (ls : Array Slot), va_P g.1 vwCl (cw g (pk3 (p0_paths, p0_water, p0_wall, p0_kind, p0_place, p0_facing, p0_age, p0_seeds, p0_season, p0_z, p0_spots) (v20.2.2.1, v20.2.2.2.1, v20.2.2.2.2.1, v20.2.2.2.2.2.1, v20.2.2.2.2.2.2.1, v20.2.2.2.2.2.2.2.1, v20.2.2.2.2.2.2.2.2.1, v20.2.2.2.2.2.2.2.2.2.1, v20.2.2.2.2.2.2.2.2.2.2.1, v20.2.2.2.2.2.2.2.2.2.2.2.1, v20.2.2.2.2.2.2.2.2.2.2.2.2) (p2_paths, p2_water, p2_wall, p2_kind, p2_place, p2_facing, p2_age, p2_seeds, p2_season, p2_z, p2_spots), w_isKept, (t_bytes, t_length, t_sort, t_start, t_end, t_value), (h_numbers, h_bits, h_size), w_told)) H → va_S (gA g) s.heap H locs → lv_has ls 7 [(5, .int v20.1)] → W p l e (headSpec wsX6_headings ({ frames := 7, cells := 0, slots := 0, locals := 163 })).room s m ([.ref (ga g 0), .int a1, .int a2, .int a3] : List Value).toArray below meth c H locs 0 0 (MQ below (qW (some (.int res.1)) True g.1 (cw g (pk3 (p0_paths, p0_water, p0_wall, p0_kind, p0_place, p0_facing, p0_age, p0_seeds, p0_season, p0_z, p0_spots) (res.2.1, res.2.2.1, res.2.2.2.1, res.2.2.2.2.1, res.2.2.2.2.2.1, res.2.2.2.2.2.2.1, res.2.2.2.2.2.2.2.1, res.2.2.2.2.2.2.2.2.1, res.2.2.2.2.2.2.2.2.2.1, res.2.2.2.2.2.2.2.2.2.2.1, res.2.2.2.2.2.2.2.2.2.2.2.1) (p2_paths, p2_water, p2_wall, p2_kind, p2_place, p2_facing, p2_age, p2_seeds, p2_season, p2_z, p2_spots), w_isKept, (t_bytes, t_length, t_sort, t_start, t_end, t_value), (h_numbers, h_bits, h_size), res.2.2.2.2.2.2.2.2.2.2.2.2)) (gA g)) ([.ref (ga g 0), .int a1, .int a2, .int a3] : List Value).toArray s 0 0 (gA g)) (F0 m 102 ls [])) ?_ ?_ _ _ _ hP hS (lv_sub hl [3, 5, 6, 2, 1, 0] rfl)
          · intro v20 hf H locs ls hP hS hl
            refine lv_iload hx hb dX6_headings_102 (lv_at hl 0 rfl) ?_
            have hres : (v20.1, v20.2.2.1, v20.2.2.2.1, v20.2.2.2.2.1, v20.2.2.2.2.2.1, v20.2.2.2.2.2.2.1, v20.2.2.2.2.2.2.2.1, v20.2.2.2.2.2.2.2.2.1, v20.2.2.2.2.2.2.2.2.2.1, v20.2.2.2.2.2.2.2.2.2.2.1, v20.2.2.2.2.2.2.2.2.2.2.2.1, v20.2.2.2.2.2.2.2.2.2.2.2.2, w_told) = res := (Option.some.inj hf)
            have hP := w_eq (congrArg (fun z => cw g (pk3 (p0_paths, p0_water, p0_wall, p0_kind, p0_place, p0_facing, p0_age, p0_seeds, p0_season, p0_z, p0_spots) (z.2.1, z.2.2.1, z.2.2.2.1, z.2.2.2.2.1, z.2.2.2.2.2.1, z.2.2.2.2.2.2.1, z.2.2.2.2.2.2.2.1, z.2.2.2.2.2.2.2.2.1, z.2.2.2.2.2.2.2.2.2.1, z.2.2.2.2.2.2.2.2.2.2.1, z.2.2.2.2.2.2.2.2.2.2.2.1) (p2_paths, p2_water, p2_wall, p2_kind, p2_place, p2_facing, p2_age, p2_seeds, p2_season, p2_z, p2_spots), w_isKept, (t_bytes, t_length, t_sort, t_start, t_end, t_value), (h_numbers, h_bits, h_size), z.2.2.2.2.2.2.2.2.2.2.2.2)) hres) hP
            exact W.iret (v := v20.1) hx hb hr (fun t ht hW => ⟨congrArg (fun z => Outcome.returned (some (Value.int z.1))) hres, trivial, by rw [ht]; exact hP, hS.F ht⟩) hS.2.2 dX6_headings_104
          · intro s19 r1 hf hback1 hexit1 H locs ls hP hS hl
            refine lv_iload hx hb dX6_headings_62 (lv_at hl 5 rfl) ?_
            refine lv_iconst (v := (4 : Int32)) hx hb dX6_headings_64 (by decide) ?_
            refine lv_icmp_ge (tgt := 102) hx hb dX6_headings_65 (by decide) (fun hc21 => ?_) (fun hc21 => ?_)
            · have hf := (if_pos hc21).symm.trans hf
              exact hexit1 (s19.1, s19.2.1, s19.2.2.1, s19.2.2.2.1, s19.2.2.2.2.1, s19.2.2.2.2.2.1, s19.2.2.2.2.2.2.1, s19.2.2.2.2.2.2.2.1, s19.2.2.2.2.2.2.2.2.1, s19.2.2.2.2.2.2.2.2.2.1, s19.2.2.2.2.2.2.2.2.2.2.1, s19.2.2.2.2.2.2.2.2.2.2.2.1, s19.2.2.2.2.2.2.2.2.2.2.2.2) (Option.some.inj hf).symm H locs ls hP hS (lv_sub hl [4] rfl)
            · have hf := (if_neg hc21).symm.trans hf
              refine lv_aload_n hx hb dX6_headings_68 rfl (lv_at hl 0 rfl) ?_
              refine va_get (D := g.1) (ci := 4) (v := .ref (ga g (1 + 1))) (C := RX6) (T := TX6) (N := 7) hx hb hts iwX6 hown hK hP 0 q_sp rfl 1 (by decide) hw1 (fun _ h9 => h9) rfl dX6_headings_69 ?_
              refine lv_aload_n hx hb dX6_headings_72 rfl (lv_at hl 0 rfl) ?_
              refine va_get (D := g.1) (ci := 4) (v := .ref (ga g (1 + 0))) (C := RX6) (T := TX6) (N := 7) hx hb hts iwX6 hown hK hP 0 q_sp rfl 0 (by decide) hw0 (fun _ h9 => h9) rfl dX6_headings_73 ?_
              refine lv_iload_n hx hb dX6_headings_76 rfl (lv_at hl 1 rfl) ?_
              refine lv_iconst (v := (2 : Int32)) hx hb dX6_headings_77 (by decide) ?_
              refine lv_iload hx hb dX6_headings_78 (lv_at hl 5 rfl) ?_
              obtain ⟨q22, hq22, hf⟩ := bd_some hf
              refine kr_W (st1 := []) (va_runV (As := [.ref (ga g (1 + 0)), .int a2, .int (2 : Int32), .int s19.2.1]) (rest := []) ⟨hx, hb, hml, hown, hts⟩ (ct_X2_copyWith l n g (fun P => (pk3 (p0_paths, p0_water, p0_wall, p0_kind, p0_place, p0_facing, p0_age, p0_seeds, p0_season, p0_z, p0_spots) P (p2_paths, p2_water, p2_wall, p2_kind, p2_place, p2_facing, p2_age, p2_seeds, p2_season, p2_z, p2_spots), w_isKept, (t_bytes, t_length, t_sort, t_start, t_end, t_value), (h_numbers, h_bits, h_size), w_told)) 1 (by decide) zP1 0 (by decide) (by decide) s19.2.2.1 s19.2.2.2.1 s19.2.2.2.2.1 s19.2.2.2.2.2.1 s19.2.2.2.2.2.2.1 s19.2.2.2.2.2.2.2.1 s19.2.2.2.2.2.2.2.2.1 s19.2.2.2.2.2.2.2.2.2.1 s19.2.2.2.2.2.2.2.2.2.2.1 s19.2.2.2.2.2.2.2.2.2.2.2.1 s19.2.2.2.2.2.2.2.2.2.2.2.2 p0_paths p0_water p0_wall p0_kind p0_place p0_facing p0_age p0_seeds p0_season p0_z p0_spots (fun _ => rfl) a2 (2 : Int32) s19.2.1 q22 hq22) (cwV 4 hts gX6_headings_X2_copyWith rfl rfl rfl hd_X2_copyWith ⟨Nat.le_of_ble_eq_true rfl, Nat.le_of_ble_eq_true rfl⟩) ⟨bl_C, va_recv hK hP (ci := 0) (q0 := (1 + 1)) rfl (e_pk (by decide) rfl (Q := (s19.2.2.1, s19.2.2.2.1, s19.2.2.2.2.1, s19.2.2.2.2.2.1, s19.2.2.2.2.2.2.1, s19.2.2.2.2.2.2.2.1, s19.2.2.2.2.2.2.2.2.1, s19.2.2.2.2.2.2.2.2.2.1, s19.2.2.2.2.2.2.2.2.2.2.1, s19.2.2.2.2.2.2.2.2.2.2.2.1, s19.2.2.2.2.2.2.2.2.2.2.2.2))), pr_C rfl hB hP hS⟩ rfl rfl hl.1 rfl (lv_room (Nat.le_of_ble_eq_true rfl)) dX6_headings_80 ⟨Nat.le_refl _, Nat.le_refl _⟩) hS rfl (fun hn23 H locs hP hS => ?_)
              have hP : va_P g.1 vwCl (cw g (pk3 (p0_paths, p0_water, p0_wall, p0_kind, p0_place, p0_facing, p0_age, p0_seeds, p0_season, p0_z, p0_spots) (q22.1, q22.2.1, q22.2.2.1, q22.2.2.2.1, q22.2.2.2.2.1, q22.2.2.2.2.2.1, q22.2.2.2.2.2.2.1, q22.2.2.2.2.2.2.2.1, q22.2.2.2.2.2.2.2.2.1, q22.2.2.2.2.2.2.2.2.2.1, q22.2.2.2.2.2.2.2.2.2.2) (p2_paths, p2_water, p2_wall, p2_kind, p2_place, p2_facing, p2_age, p2_seeds, p2_season, p2_z, p2_spots), w_isKept, (t_bytes, t_length, t_sort, t_start, t_end, t_value), (h_numbers, h_bits, h_size), w_told)) H := hP
              refine lv_aload_n hx hb dX6_headings_83 rfl (lv_at hl 0 rfl) ?_
              refine lv_aload hx hb dX6_headings_84 (lv_at hl 3 rfl) ?_
              refine lv_iload_n hx hb dX6_headings_86 rfl (lv_at hl 2 rfl) ?_
              obtain ⟨q24, hq24, hf⟩ := bd_some hf
              refine kr_W (st1 := [.int q24.1]) (va_runV (As := [.ref (ga g (8 + j3)), .int a3]) (rest := []) ⟨hx, hb, hml, hown, hts⟩ (ct_X6_trialGoesAsTold l n g p0_paths p0_water p0_wall p0_kind p0_place p0_facing p0_age p0_seeds p0_season p0_z p0_spots q22.1 q22.2.1 q22.2.2.1 q22.2.2.2.1 q22.2.2.2.2.1 q22.2.2.2.2.2.1 q22.2.2.2.2.2.2.1 q22.2.2.2.2.2.2.2.1 q22.2.2.2.2.2.2.2.2.1 q22.2.2.2.2.2.2.2.2.2.1 q22.2.2.2.2.2.2.2.2.2.2 p2_paths p2_water p2_wall p2_kind p2_place p2_facing p2_age p2_seeds p2_season p2_z p2_spots t_bytes t_length t_sort t_start t_end t_value h_numbers h_bits h_size w_isKept w_told j3 hj4 a3 q24 hq24) (cwV 2 hts gX6_headings_X6_trialGoesAsTold rfl rfl rfl hd_X6_trialGoesAsTold ⟨Nat.le_of_ble_eq_true rfl, Nat.le_of_ble_eq_true rfl⟩) ⟨bl_C, va_recv hK hP (ci := 4) (q0 := 0) rfl q_sp, pr_C rfl hB hP hS⟩ rfl rfl hl.1 rfl (lv_room (Nat.le_of_ble_eq_true rfl)) dX6_headings_87 ⟨Nat.le_refl _, Nat.le_refl _⟩) hS rfl (fun hn25 H locs hP hS => ?_)
              have hP : va_P g.1 vwCl (cw g (pk3 (p0_paths, p0_water, p0_wall, p0_kind, p0_place, p0_facing, p0_age, p0_seeds, p0_season, p0_z, p0_spots) (q24.2.1, q22.2.1, q22.2.2.1, q22.2.2.2.1, q24.2.2.1, q24.2.2.2.1, q24.2.2.2.2.1, q22.2.2.2.2.2.2.2.1, q24.2.2.2.2.2, q22.2.2.2.2.2.2.2.2.2.1, q22.2.2.2.2.2.2.2.2.2.2) (p2_paths, p2_water, p2_wall, p2_kind, p2_place, p2_facing, p2_age, p2_seeds, p2_season, p2_z, p2_spots), w_isKept, (t_bytes, t_length, t_sort, t_start, t_end, t_value), (h_numbers, h_bits, h_size), w_told)) H := hP
              refine lv_if_eq (tgt := 96) hx hb dX6_headings_90 (by decide) (fun hc26 => ?_) (fun hc26 => ?_)
              · have hf := (if_pos hc26).symm.trans hf
                refine lv_iinc (v := (s19.2.1 + (1 : Int32))) (lv' := [(6, .int (s19.2.1 + (1 : Int32))), (0, .ref (ga g 0)), (2, .int a2), (3, .int a3), (4, .ref (ga g (8 + j3))), (5, .int s19.1)]) hx hb dX6_headings_96 hl (k := 5) rfl (congrArg (fun y => s19.2.1 + y) (by decide : Int32.ofInt (1) = (1 : Int32))) (by decide) rfl (fun ls hl => ?_)
                refine lv_goto (tgt := 62) hx hb dX6_headings_99 (by decide) ?_
                exact hback1 _ (Option.some.inj hf).symm H locs ls hP hS (lv_sub hl [1, 2, 3, 4, 5, 0] rfl)
              · have hf := (if_neg hc26).symm.trans hf
                refine lv_iinc (v := (s19.1 + (1 : Int32))) (lv' := [(5, .int (s19.1 + (1 : Int32))), (0, .ref (ga g 0)), (2, .int a2), (3, .int a3), (4, .ref (ga g (8 + j3))), (6, .int s19.2.1)]) hx hb dX6_headings_93 hl (k := 4) rfl (congrArg (fun y => s19.1 + y) (by decide : Int32.ofInt (1) = (1 : Int32))) (by decide) rfl (fun ls hl => ?_)
                refine lv_iinc (v := (s19.2.1 + (1 : Int32))) (lv' := [(6, .int (s19.2.1 + (1 : Int32))), (5, .int (s19.1 + (1 : Int32))), (0, .ref (ga g 0)), (2, .int a2), (3, .int a3), (4, .ref (ga g (8 + j3)))]) hx hb dX6_headings_96 hl (k := 5) rfl (congrArg (fun y => s19.2.1 + y) (by decide : Int32.ofInt (1) = (1 : Int32))) (by decide) rfl (fun ls hl => ?_)
                refine lv_goto (tgt := 62) hx hb dX6_headings_99 (by decide) ?_
                exact hback1 _ (Option.some.inj hf).symm H locs ls hP hS (lv_sub hl [2, 3, 4, 5, 1, 0] rfl)
        · have hf := (if_pos hc18).symm.trans hf
          refine lv_aload_n hx hb dX6_headings_50 rfl (lv_at hl 1 rfl) ?_
          refine lv_iconst (v := (0 : Int32)) hx hb dX6_headings_51 (by decide) ?_
          obtain ⟨q27, hq27, hf⟩ := bd_some hf
          refine kr_W (st1 := [.int q27.1]) (va_runV (As := [.int (0 : Int32)]) (rest := []) ⟨hx, hb, hml, hown, hts⟩ (ct_X6_finding l n g p0_paths p0_water p0_wall p0_kind p0_place p0_facing p0_age p0_seeds p0_season p0_z p0_spots p1_paths p1_water p1_wall p1_kind p1_place p1_facing p1_age p1_seeds p1_season p1_z p1_spots p2_paths p2_water p2_wall p2_kind p2_place p2_facing p2_age p2_seeds p2_season p2_z p2_spots t_bytes t_length t_sort t_start t_end t_value h_numbers h_bits h_size w_isKept w_told (0 : Int32) q27 hq27) (cwV 1 hts gX6_headings_X6_finding rfl rfl rfl hd_X6_finding ⟨Nat.le_of_ble_eq_true rfl, Nat.le_of_ble_eq_true rfl⟩) ⟨bl_C, va_recv hK hP (ci := 4) (q0 := 0) rfl q_sp, pr_C rfl hB hP hS⟩ rfl rfl hl.1 rfl (lv_room (Nat.le_of_ble_eq_true rfl)) dX6_headings_52 ⟨Nat.le_refl _, Nat.le_refl _⟩) hS rfl (fun hn28 H locs hP hS => ?_)
          have hP : va_P g.1 vwCl (cw g (pk3 (p0_paths, p0_water, p0_wall, p0_kind, p0_place, p0_facing, p0_age, p0_seeds, p0_season, p0_z, p0_spots) (p1_paths, p1_water, p1_wall, p1_kind, p1_place, p1_facing, p1_age, p1_seeds, p1_season, p1_z, p1_spots) (p2_paths, p2_water, p2_wall, p2_kind, p2_place, p2_facing, p2_age, p2_seeds, p2_season, p2_z, p2_spots), w_isKept, (t_bytes, t_length, t_sort, t_start, t_end, t_value), (h_numbers, h_bits, h_size), q27.2)) H := hP
          have hres : (q27.1, p1_paths, p1_water, p1_wall, p1_kind, p1_place, p1_facing, p1_age, p1_seeds, p1_season, p1_z, p1_spots, q27.2) = res := (Option.some.inj hf)
          have hP := w_eq (congrArg (fun z => cw g (pk3 (p0_paths, p0_water, p0_wall, p0_kind, p0_place, p0_facing, p0_age, p0_seeds, p0_season, p0_z, p0_spots) (z.2.1, z.2.2.1, z.2.2.2.1, z.2.2.2.2.1, z.2.2.2.2.2.1, z.2.2.2.2.2.2.1, z.2.2.2.2.2.2.2.1, z.2.2.2.2.2.2.2.2.1, z.2.2.2.2.2.2.2.2.2.1, z.2.2.2.2.2.2.2.2.2.2.1, z.2.2.2.2.2.2.2.2.2.2.2.1) (p2_paths, p2_water, p2_wall, p2_kind, p2_place, p2_facing, p2_age, p2_seeds, p2_season, p2_z, p2_spots), w_isKept, (t_bytes, t_length, t_sort, t_start, t_end, t_value), (h_numbers, h_bits, h_size), z.2.2.2.2.2.2.2.2.2.2.2.2)) hres) hP
          exact W.iret (v := q27.1) hx hb hr (fun t ht hW => ⟨congrArg (fun z => Outcome.returned (some (Value.int z.1))) hres, trivial, by rw [ht]; exact hP, hS.F ht⟩) hS.2.2 dX6_headings_55
    · have hf := (if_neg hc9).symm.trans hf
      refine lv_aload_n hx hb dX6_headings_26 rfl (lv_at hl 1 rfl) ?_
      refine lv_iconst (v := (5 : Int32)) hx hb dX6_headings_27 (by decide) ?_
      obtain ⟨q29, hq29, hf⟩ := bd_some hf
      refine kr_W (st1 := [.int q29.1]) (va_runV (As := [.int (5 : Int32)]) (rest := []) ⟨hx, hb, hml, hown, hts⟩ (ct_X6_finding l n g p0_paths p0_water p0_wall p0_kind p0_place p0_facing p0_age p0_seeds p0_season p0_z p0_spots p1_paths p1_water p1_wall p1_kind p1_place p1_facing p1_age p1_seeds p1_season p1_z p1_spots p2_paths p2_water p2_wall p2_kind p2_place p2_facing p2_age p2_seeds p2_season p2_z p2_spots t_bytes t_length t_sort t_start t_end t_value h_numbers h_bits h_size w_isKept w_told (5 : Int32) q29 hq29) (cwV 1 hts gX6_headings_X6_finding rfl rfl rfl hd_X6_finding ⟨Nat.le_of_ble_eq_true rfl, Nat.le_of_ble_eq_true rfl⟩) ⟨bl_C, va_recv hK hP (ci := 4) (q0 := 0) rfl q_sp, pr_C rfl hB hP hS⟩ rfl rfl hl.1 rfl (lv_room (Nat.le_of_ble_eq_true rfl)) dX6_headings_28 ⟨Nat.le_refl _, Nat.le_refl _⟩) hS rfl (fun hn30 H locs hP hS => ?_)
      have hP : va_P g.1 vwCl (cw g (pk3 (p0_paths, p0_water, p0_wall, p0_kind, p0_place, p0_facing, p0_age, p0_seeds, p0_season, p0_z, p0_spots) (p1_paths, p1_water, p1_wall, p1_kind, p1_place, p1_facing, p1_age, p1_seeds, p1_season, p1_z, p1_spots) (p2_paths, p2_water, p2_wall, p2_kind, p2_place, p2_facing, p2_age, p2_seeds, p2_season, p2_z, p2_spots), w_isKept, (t_bytes, t_length, t_sort, t_start, t_end, t_value), (h_numbers, h_bits, h_size), q29.2)) H := hP
      have hres : (q29.1, p1_paths, p1_water, p1_wall, p1_kind, p1_place, p1_facing, p1_age, p1_seeds, p1_season, p1_z, p1_spots, q29.2) = res := (Option.some.inj hf)
      have hP := w_eq (congrArg (fun z => cw g (pk3 (p0_paths, p0_water, p0_wall, p0_kind, p0_place, p0_facing, p0_age, p0_seeds, p0_season, p0_z, p0_spots) (z.2.1, z.2.2.1, z.2.2.2.1, z.2.2.2.2.1, z.2.2.2.2.2.1, z.2.2.2.2.2.2.1, z.2.2.2.2.2.2.2.1, z.2.2.2.2.2.2.2.2.1, z.2.2.2.2.2.2.2.2.2.1, z.2.2.2.2.2.2.2.2.2.2.1, z.2.2.2.2.2.2.2.2.2.2.2.1) (p2_paths, p2_water, p2_wall, p2_kind, p2_place, p2_facing, p2_age, p2_seeds, p2_season, p2_z, p2_spots), w_isKept, (t_bytes, t_length, t_sort, t_start, t_end, t_value), (h_numbers, h_bits, h_size), z.2.2.2.2.2.2.2.2.2.2.2.2)) hres) hP
      exact W.iret (v := q29.1) hx hb hr (fun t ht hW => ⟨congrArg (fun z => Outcome.returned (some (Value.int z.1))) hres, trivial, by rw [ht]; exact hP, hS.F ht⟩) hS.2.2 dX6_headings_31
set_option maxHeartbeats 4000000 in
set_option maxRecDepth 100000 in
theorem ct_X2_draw (l : Launch) (n : Nat) (g : GC) (S : PK → CS) (k : Nat) (hk : k < 3) (hL : zP k S) (f_paths : Nat → Int32) (f_water : Int64) (f_wall : Int64) (f_kind : Nat → Int32) (f_place : Nat → Int32) (f_facing : Nat → Int32) (f_age : Nat → Int32) (f_seeds : Int32) (f_season : Int32) (f_z : Int32) (f_spots : Nat → Int32) (res : Int32 × Int32) (hf : fX2_draw n f_z = some res) : Met l yX2_draw wsX2_draw ({ frames := 0, cells := 0, slots := 0, locals := 0 }) (va_Pc [.ref (ga g (1 + k))] (cI g (S (f_paths, f_water, f_wall, f_kind, f_place, f_facing, f_age, f_seeds, f_season, f_z, f_spots)))) (qW (some (.int res.1)) True g.1 (cw g (S (f_paths, f_water, f_wall, f_kind, f_place, f_facing, f_age, f_seeds, f_season, res.2, f_spots))) (gA g)) 0 0 (gA g) := by
  refine Met.ofW (cc := cX2_draw) (maxL := 1) (ret := (some .int)) (by decide) rfl ?_
  intro p e s m args below meth c s₁ B hml hv
  obtain ⟨rfl, hI⟩ := hv
  have hx := B.exec
  have hb := B.bytes
  have hr := B.returns
  have hts := atoms_spec (ws := wsX2_draw) B.pre
  have hown : s.vm.findClass RX2 = some m.cls := findClass_of_methodNamed B.named
  have hlocks := B.notSynchronized
  have hP := hI.1
  have hB := hI.2
  have hK := hB.1
  have hNW := hB.2.1
  have hS : va_S (gA g) s.heap s.heap [] := va_S.rf
  have hw0 := hts (.fieldLink RX2 15 "SownPaths$Park" "z" "I") (by decide +kernel)
  have hw1 := hts (.constant RX2 116 (1103515245)) (by decide +kernel)
  have iwX2 : ∀ w ∈ wsX20, w ∈ wsX2_draw := fun w h => List.mem_cons_of_mem _ (List.mem_append_right _ h)
  have hl := lv_entry ([.ref (ga g (1 + k))]) (n := 1) (Nat.le_of_ble_eq_true rfl)
  rw [lg_entry_eq]
  generalize (lg_sl ([.ref (ga g (1 + k))]) ++ List.replicate (1 - (lg_sl ([.ref (ga g (1 + k))])).length) Slot.unset).toArray = ls at hl ⊢
  have hl : lv_has ls 1 [(0, .ref (ga g (1 + k)))] := hl
  unfold fX2_draw at hf
  refine lv_aload_n hx hb dX2_draw_0 rfl (lv_at hl 0 rfl) ?_
  refine lv_aload_n hx hb dX2_draw_1 rfl (lv_at hl 0 rfl) ?_
  refine va_get (D := g.1) (ci := 0) (v := .int f_z) (C := RX2) (T := TX2) (N := 8) hx hb hts iwX2 hown hK hP (1 + k) (e_pk hk (hL.1 _) (Q := (f_paths, f_water, f_wall, f_kind, f_place, f_facing, f_age, f_seeds, f_season, f_z, f_spots))) rfl 6 (by decide) hw0 (fun _ h9 => h9) rfl dX2_draw_2 ?_
  refine lv_ldc (v := (1103515245 : Int32)) hx hb hown hw1 dX2_draw_5 ?_
  refine lv_imul hx hb dX2_draw_7 ?_
  refine lv_sipush (v := (12345 : Int32)) hx hb dX2_draw_8 (by decide) ?_
  refine lv_iadd hx hb dX2_draw_11 ?_
  refine va_put (D := g.1) (ci := 0) (v := .int ((f_z * (1103515245 : Int32)) + (12345 : Int32))) (ty := .int) (C := RX2) (T := TX2) (N := 8) hx hb hts iwX2 tyX2 tyX2_ok nmX2 hown hK hP (cD hB.2.2.1 _) hS (1 + k) (e_pk hk (hL.1 _) (Q := (f_paths, f_water, f_wall, f_kind, f_place, f_facing, f_age, f_seeds, f_season, f_z, f_spots))) rfl 6 (by decide) hw0 (fun _ h9 => h9) rfl (tyX2_ok 6 (by decide)) rfl rfl (Nat.le_of_ble_eq_true rfl) dX2_draw_12 (fun H locs hP _ hS => ?_)
  have hP : va_P g.1 vwCl (cw g (S (f_paths, f_water, f_wall, f_kind, f_place, f_facing, f_age, f_seeds, f_season, ((f_z * (1103515245 : Int32)) + (12345 : Int32)), f_spots))) H := w_eq (s_z (S := S) (P := (f_paths, f_water, f_wall, f_kind, f_place, f_facing, f_age, f_seeds, f_season, f_z, f_spots)) ((f_z * (1103515245 : Int32)) + (12345 : Int32)) hk hL) hP
  refine lv_aload_n hx hb dX2_draw_15 rfl (lv_at hl 0 rfl) ?_
  refine va_get (D := g.1) (ci := 0) (v := .int ((f_z * (1103515245 : Int32)) + (12345 : Int32))) (C := RX2) (T := TX2) (N := 8) hx hb hts iwX2 hown hK hP (1 + k) (e_pk hk (hL.1 _) (Q := (f_paths, f_water, f_wall, f_kind, f_place, f_facing, f_age, f_seeds, f_season, ((f_z * (1103515245 : Int32)) + (12345 : Int32)), f_spots))) rfl 6 (by decide) hw0 (fun _ h9 => h9) rfl dX2_draw_16 ?_
  refine lv_bipush (v := (8 : Int32)) hx hb dX2_draw_19 (by decide) ?_
  refine lv_iushr (v := ((((f_z * (1103515245 : Int32)) + (12345 : Int32)).toUInt32 >>> ((8 : Int32).toUInt32 &&& Int32.toUInt32 31)).toInt32)) hx hb dX2_draw_21 rfl ?_
  have hres : (((((f_z * (1103515245 : Int32)) + (12345 : Int32)).toUInt32 >>> ((8 : Int32).toUInt32 &&& Int32.toUInt32 31)).toInt32), ((f_z * (1103515245 : Int32)) + (12345 : Int32))) = res := (Option.some.inj hf)
  have hP := w_eq (congrArg (fun z => cw g (S (f_paths, f_water, f_wall, f_kind, f_place, f_facing, f_age, f_seeds, f_season, z.2, f_spots))) hres) hP
  exact W.iret (v := ((((f_z * (1103515245 : Int32)) + (12345 : Int32)).toUInt32 >>> ((8 : Int32).toUInt32 &&& Int32.toUInt32 31)).toInt32)) hx hb hr (fun t ht hW => ⟨congrArg (fun z => Outcome.returned (some (Value.int z.1))) hres, trivial, by rw [ht]; exact hP, hS.F ht⟩) hS.2.2 dX2_draw_22
set_option maxHeartbeats 4000000 in
set_option maxRecDepth 100000 in
theorem ct_X6_dogs (l : Launch) (n : Nat) (g : GC) (p0_paths : Nat → Int32) (p0_water : Int64) (p0_wall : Int64) (p0_kind : Nat → Int32) (p0_place : Nat → Int32) (p0_facing : Nat → Int32) (p0_age : Nat → Int32) (p0_seeds : Int32) (p0_season : Int32) (p0_z : Int32) (p0_spots : Nat → Int32) (p1_paths : Nat → Int32) (p1_water : Int64) (p1_wall : Int64) (p1_kind : Nat → Int32) (p1_place : Nat → Int32) (p1_facing : Nat → Int32) (p1_age : Nat → Int32) (p1_seeds : Int32) (p1_season : Int32) (p1_z : Int32) (p1_spots : Nat → Int32) (p2_paths : Nat → Int32) (p2_water : Int64) (p2_wall : Int64) (p2_kind : Nat → Int32) (p2_place : Nat → Int32) (p2_facing : Nat → Int32) (p2_age : Nat → Int32) (p2_seeds : Int32) (p2_season : Int32) (p2_z : Int32) (p2_spots : Nat → Int32) (t_bytes : Nat → Int32) (t_length : Int32) (t_sort : Int32) (t_start : Int32) (t_end : Int32) (t_value : Int32) (h_numbers : Nat → Nat → Int32) (h_bits : Nat → Int32) (h_size : Nat → Int32) (w_isKept : Int32) (w_told : Nat → Int32) (a1 : Int32) (res : Int32 × (Nat → Int32) × (Nat → Int32) × (Nat → Int32) × (Nat → Int32) × Int32 × Int32 × (Nat → Int32)) (hf : fX6_dogs n a1 p0_paths p0_water p0_wall p0_kind p0_place p0_facing p0_age p0_seeds p0_season p0_z w_told = some res) : Met l yX6_dogs wsX6_dogs ({ frames := 6, cells := 0, slots := 0, locals := 139 }) (va_Pc [.ref (ga g 0), .int a1] (cI g (pk3 (p0_paths, p0_water, p0_wall, p0_kind, p0_place, p0_facing, p0_age, p0_seeds, p0_season, p0_z, p0_spots) (p1_paths, p1_water, p1_wall, p1_kind, p1_place, p1_facing, p1_age, p1_seeds, p1_season, p1_z, p1_spots) (p2_paths, p2_water, p2_wall, p2_kind, p2_place, p2_facing, p2_age, p2_seeds, p2_season, p2_z, p2_spots), w_isKept, (t_bytes, t_length, t_sort, t_start, t_end, t_value), (h_numbers, h_bits, h_size), w_told))) (qW (some (.int res.1)) True g.1 (cw g (pk3 (res.2.1, p0_water, p0_wall, p0_kind, res.2.2.1, res.2.2.2.1, res.2.2.2.2.1, p0_seeds, res.2.2.2.2.2.1, res.2.2.2.2.2.2.1, p0_spots) (p1_paths, p1_water, p1_wall, p1_kind, p1_place, p1_facing, p1_age, p1_seeds, p1_season, p1_z, p1_spots) (p2_paths, p2_water, p2_wall, p2_kind, p2_place, p2_facing, p2_age, p2_seeds, p2_season, p2_z, p2_spots), w_isKept, (t_bytes, t_length, t_sort, t_start, t_end, t_value), (h_numbers, h_bits, h_size), res.2.2.2.2.2.2.2)) (gA g)) 0 0 (gA g) := by
  refine Met.ofW (cc := cX6_dogs) (maxL := 3) (ret := (some .int)) (by decide) rfl ?_
  intro p e s m args below meth c s₁ B hml hv
  obtain ⟨rfl, hI⟩ := hv
  have hx := B.exec
  have hb := B.bytes
  have hr := B.returns
  have hts := atoms_spec (ws := wsX6_dogs) B.pre
  have hown : s.vm.findClass RX6 = some m.cls := findClass_of_methodNamed B.named
  have hlocks := B.notSynchronized
  have hP := hI.1
  have hB := hI.2
  have hK := hB.1
  have hNW := hB.2.1
  have hS : va_S (gA g) s.heap s.heap [] := va_S.rf
  have hw0 := hts (.fieldLink RX6 10 "SownPaths" "park" "LSownPaths$Park;") (by decide +kernel)
  have hw1 := hts (.constant RX6 152 (99999)) (by decide +kernel)
  have iwX2 : ∀ w ∈ wsX20, w ∈ wsX6_dogs := fun w h => List.mem_cons_of_mem _ (List.mem_append_left _ (List.mem_append_right _ h))
  have iwX6 : ∀ w ∈ wsX60, w ∈ wsX6_dogs := fun w h => List.mem_cons_of_mem _ (List.mem_append_left _ (List.mem_append_left _ (List.mem_append_right _ h)))
  have hl := lv_entry ([.ref (ga g 0), .int a1]) (n := 3) (Nat.le_of_ble_eq_true rfl)
  rw [lg_entry_eq]
  generalize (lg_sl ([.ref (ga g 0), .int a1]) ++ List.replicate (3 - (lg_sl ([.ref (ga g 0), .int a1])).length) Slot.unset).toArray = ls at hl ⊢
  have hl : lv_has ls 3 [(0, .ref (ga g 0)), (1, .int a1)] := hl
  unfold fX6_dogs at hf
  refine lv_iload_n hx hb dX6_dogs_0 rfl (lv_at hl 1 rfl) ?_
  refine lv_iconst (v := (1 : Int32)) hx hb dX6_dogs_1 (by decide) ?_
  refine lv_bipush (v := (20 : Int32)) hx hb dX6_dogs_2 (by decide) ?_
  obtain ⟨q1, hq1, hf⟩ := bd_some hf
  refine kr_S (st1 := [.int q1]) (va_runS (As := [.int a1, .int (1 : Int32), .int (20 : Int32)]) (rest := []) ⟨hx, hb, hml, hown, hts⟩ (ct_X6_within l n a1 (1 : Int32) (20 : Int32) q1 hq1) (va_cwS 3 hts gX6_dogs_X6_within rfl rfl rfl hn_X6_within ⟨Nat.le_of_ble_eq_true rfl, Nat.le_of_ble_eq_true rfl⟩) ⟨bl_N, pr_N rfl hNW⟩ rfl rfl hl.1 rfl (lv_room (Nat.le_of_ble_eq_true rfl)) dX6_dogs_4 ⟨Nat.le_refl _, Nat.le_refl _⟩) rfl (fun hn2 => ?_)
  refine lv_if_ne (tgt := 16) hx hb dX6_dogs_7 (by decide) (fun hc3 => ?_) (fun hc3 => ?_)
  · have hf := (if_neg hc3).symm.trans hf
    refine lv_aload_n hx hb dX6_dogs_16 rfl (lv_at hl 0 rfl) ?_
    refine va_get (D := g.1) (ci := 4) (v := .ref (ga g (1 + 0))) (C := RX6) (T := TX6) (N := 7) hx hb hts iwX6 hown hK hP 0 q_sp rfl 0 (by decide) hw0 (fun _ h9 => h9) rfl dX6_dogs_17 ?_
    refine va_getN (D := g.1) (ci := 0) (v := .int p0_season) (C := RX2) (T := TX2) (N := 8) hx hb hts iwX2 hown hK hP (1 + 0) (e_pk (by decide) rfl (Q := (p0_paths, p0_water, p0_wall, p0_kind, p0_place, p0_facing, p0_age, p0_seeds, p0_season, p0_z, p0_spots))) rfl 5 (by decide) (nf_X6_149 hNW) (fun _ h9 => h9) rfl dX6_dogs_20 ?_
    refine lv_iload_n hx hb dX6_dogs_23 rfl (lv_at hl 1 rfl) ?_
    refine lv_iadd hx hb dX6_dogs_24 ?_
    refine lv_ldc (v := (99999 : Int32)) hx hb hown hw1 dX6_dogs_25 ?_
    refine lv_icmp_le (tgt := 36) hx hb dX6_dogs_27 (by decide) (fun hc4 => ?_) (fun hc4 => ?_)
    · have hf := (if_pos hc4).symm.trans hf
      refine lv_iconst (v := (0 : Int32)) hx hb dX6_dogs_36 (by decide) ?_
      refine lv_istore_n (lv' := [(2, .int (0 : Int32)), (0, .ref (ga g 0)), (1, .int a1)]) hx hb dX6_dogs_37 rfl hl (by decide) rfl (fun ls hl => ?_)
      refine lp_run hf (fun s5 => ∀ (H : Heap) (locs : List Loc) (ls : Array Slot), va_P g.1 vwCl (cw g (pk3 (s5.2.1, p0_water, p0_wall, p0_kind, s5.2.2.1, s5.2.2.2.1, s5.2.2.2.2.1, p0_seeds, s5.2.2.2.2.2.1, s5.2.2.2.2.2.2, p0_spots) (p1_paths, p1_water, p1_wall, p1_kind, p1_place, p1_facing, p1_age, p1_seeds, p1_season, p1_z, p1_spots) (p2_paths, p2_water, p2_wall, p2_kind, p2_place, p2_facing, p2_age, p2_seeds, p2_season, p2_z, p2_spots), w_isKept, (t_bytes, t_length, t_sort, t_start, t_end, t_value), (h_numbers, h_bits, h_size), w_told)) H → va_S (gA g) s.heap H locs → lv_has ls 3 [(0, .ref (ga g 0)), (1, .int a1), (2, .int s5.1)] → W p l e (headSpec wsX6_dogs ({ frames := 6, cells := 0, slots := 0, locals := 139 })).room s m ([.ref (ga g 0), .int a1] : List Value).toArray below meth c H locs 0 0 (MQ below (qW (some (.int res.1)) True g.1 (cw g (pk3 (res.2.1, p0_water, p0_wall, p0_kind, res.2.2.1, res.2.2.2.1, res.2.2.2.2.1, p0_seeds, res.2.2.2.2.2.1, res.2.2.2.2.2.2.1, p0_spots) (p1_paths, p1_water, p1_wall, p1_kind, p1_place, p1_facing, p1_age, p1_seeds, p1_season, p1_z, p1_spots) (p2_paths, p2_water, p2_wall, p2_kind, p2_place, p2_facing, p2_age, p2_seeds, p2_season, p2_z, p2_spots), w_isKept, (t_bytes, t_length, t_sort, t_start, t_end, t_value), (h_numbers, h_bits, h_size), res.2.2.2.2.2.2.2)) (gA g)) ([.ref (ga g 0), .int a1] : List Value).toArray s 0 0 (gA g)) (F0 m 38 ls [])) (fun v6 => ∀ (H : Heap) (locs : List Loc) (ls : Array Slot), va_P g.1 vwCl (cw g (pk3 (v6.2.1, p0_water, p0_wall, p0_kind, v6.2.2.1, v6.2.2.2.1, v6.2.2.2.2.1, p0_seeds, v6.2.2.2.2.2.1, v6.2.2.2.2.2.2, p0_spots) (p1_paths, p1_water, p1_wall, p1_kind, p1_place, p1_facing, p1_age, p1_seeds, p1_season, p1_z, p1_spots) (p2_paths, p2_water, p2_wall, p2_kind, p2_place, p2_facing, p2_age, p2_seeds, p2_season, p2_z, p2_spots), w_isKept, (t_bytes, t_length, t_sort, t_start, t_end, t_value), (h_numbers, h_bits, h_size), w_told)) H → va_S (gA g) s.heap H locs → lv_has ls 3 [(0, .ref (ga g 0))] → W p l e (headSpec wsX6_dogs ({ frames := 6, cells := 0, slots := 0, locals := 139 })).room s m ([.ref (ga g 0), .int a1] : List Value).toArray below meth c H locs 0 0 (MQ below (qW (some (.int res.1)) True g.1 (cw g (pk3 (res.2.1, p0_water, p0_wall, p0_kind, res.2.2.1, res.2.2.2.1, res.2.2.2.2.1, p0_seeds, res.2.2.2.2.2.1, res.2.2.2.2.2.2.1, p0_spots) (p1_paths, p1_water, p1_wall, p1_kind, p1_place, p1_facing, p1_age, p1_seeds, p1_season, p1_z, p1_spots) (p2_paths, p2_water, p2_wall, p2_kind, p2_place, p2_facing, p2_age, p2_seeds, p2_season, p2_z, p2_spots), w_isKept, (t_bytes, t_length, t_sort, t_start, t_end, t_value), (h_numbers, h_bits, h_size), res.2.2.2.2.2.2.2)) (gA g)) ([.ref (ga g 0), .int a1] : List Value).toArray s 0 0 (gA g)) (F0 m 75 ls [])) ?_ ?_ _ _ _ hP hS (lv_sub hl [1, 2, 0] rfl)
      · intro v6 hf H locs ls hP hS hl
        refine lv_aload_n hx hb dX6_dogs_75 rfl (lv_at hl 0 rfl) ?_
        refine va_get (D := g.1) (ci := 4) (v := .ref (ga g (1 + 0))) (C := RX6) (T := TX6) (N := 7) hx hb hts iwX6 hown hK hP 0 q_sp rfl 0 (by decide) hw0 (fun _ h9 => h9) rfl dX6_dogs_76 ?_
        obtain ⟨q14, hq14, hf⟩ := bd_some hf
        refine kr_S (st1 := [.int q14]) (va_runV (As := []) (rest := []) ⟨hx, hb, hml, hown, hts⟩ (ct_X2_pathCells l n g (pk3 (v6.2.1, p0_water, p0_wall, p0_kind, v6.2.2.1, v6.2.2.2.1, v6.2.2.2.2.1, p0_seeds, v6.2.2.2.2.2.1, v6.2.2.2.2.2.2, p0_spots) (p1_paths, p1_water, p1_wall, p1_kind, p1_place, p1_facing, p1_age, p1_seeds, p1_season, p1_z, p1_spots) (p2_paths, p2_water, p2_wall, p2_kind, p2_place, p2_facing, p2_age, p2_seeds, p2_season, p2_z, p2_spots), w_isKept, (t_bytes, t_length, t_sort, t_start, t_end, t_value), (h_numbers, h_bits, h_size), w_told) 0 (by decide) v6.2.1 p0_water p0_wall p0_kind v6.2.2.1 v6.2.2.2.1 v6.2.2.2.2.1 p0_seeds v6.2.2.2.2.2.1 v6.2.2.2.2.2.2 p0_spots rfl q14 hq14) (cwV 0 hts gX6_dogs_X2_pathCells rfl rfl rfl hd_X2_pathCells ⟨Nat.le_of_ble_eq_true rfl, Nat.le_of_ble_eq_true rfl⟩) ⟨bl_C, va_recv hK hP (ci := 0) (q0 := (1 + 0)) rfl (e_pk (by decide) rfl (Q := (v6.2.1, p0_water, p0_wall, p0_kind, v6.2.2.1, v6.2.2.2.1, v6.2.2.2.2.1, p0_seeds, v6.2.2.2.2.2.1, v6.2.2.2.2.2.2, p0_spots))), pr_C rfl hB hP hS⟩ rfl rfl hl.1 rfl (lv_room (Nat.le_of_ble_eq_true rfl)) dX6_dogs_79 ⟨Nat.le_refl _, Nat.le_refl _⟩) rfl (fun hn15 => ?_)
        have hres : (q14, v6.2.1, v6.2.2.1, v6.2.2.2.1, v6.2.2.2.2.1, v6.2.2.2.2.2.1, v6.2.2.2.2.2.2, w_told) = res := (Option.some.inj hf)
        have hP := w_eq (congrArg (fun z => cw g (pk3 (z.2.1, p0_water, p0_wall, p0_kind, z.2.2.1, z.2.2.2.1, z.2.2.2.2.1, p0_seeds, z.2.2.2.2.2.1, z.2.2.2.2.2.2.1, p0_spots) (p1_paths, p1_water, p1_wall, p1_kind, p1_place, p1_facing, p1_age, p1_seeds, p1_season, p1_z, p1_spots) (p2_paths, p2_water, p2_wall, p2_kind, p2_place, p2_facing, p2_age, p2_seeds, p2_season, p2_z, p2_spots), w_isKept, (t_bytes, t_length, t_sort, t_start, t_end, t_value), (h_numbers, h_bits, h_size), z.2.2.2.2.2.2.2)) hres) hP
        exact W.iret (v := q14) hx hb hr (fun t ht hW => ⟨congrArg (fun z => Outcome.returned (some (Value.int z.1))) hres, trivial, by rw [ht]; exact hP, hS.F ht⟩) hS.2.2 dX6_dogs_82
      · intro s5 r1 hf hback1 hexit1 H locs ls hP hS hl
        refine lv_iload_n hx hb dX6_dogs_38 rfl (lv_at hl 2 rfl) ?_
        refine lv_iload_n hx hb dX6_dogs_39 rfl (lv_at hl 1 rfl) ?_
        refine lv_icmp_ge (tgt := 75) hx hb dX6_dogs_40 (by decide) (fun hc7 => ?_) (fun hc7 => ?_)
        · have hf := (if_pos hc7).symm.trans hf
          exact hexit1 (s5.1, s5.2.1, s5.2.2.1, s5.2.2.2.1, s5.2.2.2.2.1, s5.2.2.2.2.2.1, s5.2.2.2.2.2.2) (Option.some.inj hf).symm H locs ls hP hS (lv_sub hl [0] rfl)
        · have hf := (if_neg hc7).symm.trans hf
          refine lv_aload_n hx hb dX6_dogs_43 rfl (lv_at hl 0 rfl) ?_
          refine va_get (D := g.1) (ci := 4) (v := .ref (ga g (1 + 0))) (C := RX6) (T := TX6) (N := 7) hx hb hts iwX6 hown hK hP 0 q_sp rfl 0 (by decide) hw0 (fun _ h9 => h9) rfl dX6_dogs_44 ?_
          refine lv_aload_n hx hb dX6_dogs_47 rfl (lv_at hl 0 rfl) ?_
          refine va_get (D := g.1) (ci := 4) (v := .ref (ga g (1 + 0))) (C := RX6) (T := TX6) (N := 7) hx hb hts iwX6 hown hK hP 0 q_sp rfl 0 (by decide) hw0 (fun _ h9 => h9) rfl dX6_dogs_48 ?_
          obtain ⟨q8, hq8, hf⟩ := bd_some hf
          refine kr_W (st1 := [.int q8.1, .ref (ga g (1 + 0))]) (va_runV (As := []) (rest := [.ref (ga g (1 + 0))]) ⟨hx, hb, hml, hown, hts⟩ (ct_X2_draw l n g (fun P => (pk3 P (p1_paths, p1_water, p1_wall, p1_kind, p1_place, p1_facing, p1_age, p1_seeds, p1_season, p1_z, p1_spots) (p2_paths, p2_water, p2_wall, p2_kind, p2_place, p2_facing, p2_age, p2_seeds, p2_season, p2_z, p2_spots), w_isKept, (t_bytes, t_length, t_sort, t_start, t_end, t_value), (h_numbers, h_bits, h_size), w_told)) 0 (by decide) zP0 s5.2.1 p0_water p0_wall p0_kind s5.2.2.1 s5.2.2.2.1 s5.2.2.2.2.1 p0_seeds s5.2.2.2.2.2.1 s5.2.2.2.2.2.2 p0_spots q8 hq8) (cwV 0 hts gX6_dogs_X2_draw rfl rfl rfl hd_X2_draw ⟨Nat.le_of_ble_eq_true rfl, Nat.le_of_ble_eq_true rfl⟩) ⟨bl_C, va_recv hK hP (ci := 0) (q0 := (1 + 0)) rfl (e_pk (by decide) rfl (Q := (s5.2.1, p0_water, p0_wall, p0_kind, s5.2.2.1, s5.2.2.2.1, s5.2.2.2.2.1, p0_seeds, s5.2.2.2.2.2.1, s5.2.2.2.2.2.2, p0_spots))), pr_C rfl hB hP hS⟩ rfl rfl hl.1 rfl (lv_room (Nat.le_of_ble_eq_true rfl)) dX6_dogs_51 ⟨Nat.le_refl _, Nat.le_refl _⟩) hS rfl (fun hn9 H locs hP hS => ?_)
          have hP : va_P g.1 vwCl (cw g (pk3 (s5.2.1, p0_water, p0_wall, p0_kind, s5.2.2.1, s5.2.2.2.1, s5.2.2.2.2.1, p0_seeds, s5.2.2.2.2.2.1, q8.2, p0_spots) (p1_paths, p1_water, p1_wall, p1_kind, p1_place, p1_facing, p1_age, p1_seeds, p1_season, p1_z, p1_spots) (p2_paths, p2_water, p2_wall, p2_kind, p2_place, p2_facing, p2_age, p2_seeds, p2_season, p2_z, p2_spots), w_isKept, (t_bytes, t_length, t_sort, t_start, t_end, t_value), (h_numbers, h_bits, h_size), w_told)) H := hP
          refine lv_bipush (v := (36 : Int32)) hx hb dX6_dogs_54 (by decide) ?_
          refine lv_irem hx hb dX6_dogs_56 (by decide) ?_
          refine lv_iconst (v := (0 : Int32)) hx hb dX6_dogs_57 (by decide) ?_
          obtain ⟨q10, hq10, hf⟩ := bd_some hf
          refine kr_W (st1 := []) (va_runV (As := [.int (q8.1 - q8.1 / (36 : Int32) * (36 : Int32)), .int (0 : Int32)]) (rest := []) ⟨hx, hb, hml, hown, hts⟩ (ct_X2_becomePath l n g (fun P => (pk3 P (p1_paths, p1_water, p1_wall, p1_kind, p1_place, p1_facing, p1_age, p1_seeds, p1_season, p1_z, p1_spots) (p2_paths, p2_water, p2_wall, p2_kind, p2_place, p2_facing, p2_age, p2_seeds, p2_season, p2_z, p2_spots), w_isKept, (t_bytes, t_length, t_sort, t_start, t_end, t_value), (h_numbers, h_bits, h_size), w_told)) 0 (by decide) zP0 s5.2.1 p0_water p0_wall p0_kind s5.2.2.1 s5.2.2.2.1 s5.2.2.2.2.1 p0_seeds s5.2.2.2.2.2.1 q8.2 p0_spots (q8.1 - q8.1 / (36 : Int32) * (36 : Int32)) (0 : Int32) q10 hq10) (cwV 2 hts gX6_dogs_X2_becomePath rfl rfl rfl hd_X2_becomePath ⟨Nat.le_of_ble_eq_true rfl, Nat.le_of_ble_eq_true rfl⟩) ⟨bl_C, va_recv hK hP (ci := 0) (q0 := (1 + 0)) rfl (e_pk (by decide) rfl (Q := (s5.2.1, p0_water, p0_wall, p0_kind, s5.2.2.1, s5.2.2.2.1, s5.2.2.2.2.1, p0_seeds, s5.2.2.2.2.2.1, q8.2, p0_spots))), pr_C rfl hB hP hS⟩ rfl rfl hl.1 rfl (lv_room (Nat.le_of_ble_eq_true rfl)) dX6_dogs_58 ⟨Nat.le_refl _, Nat.le_refl _⟩) hS rfl (fun hn11 H locs hP hS => ?_)
          have hP : va_P g.1 vwCl (cw g (pk3 (q10, p0_water, p0_wall, p0_kind, s5.2.2.1, s5.2.2.2.1, s5.2.2.2.2.1, p0_seeds, s5.2.2.2.2.2.1, q8.2, p0_spots) (p1_paths, p1_water, p1_wall, p1_kind, p1_place, p1_facing, p1_age, p1_seeds, p1_season, p1_z, p1_spots) (p2_paths, p2_water, p2_wall, p2_kind, p2_place, p2_facing, p2_age, p2_seeds, p2_season, p2_z, p2_spots), w_isKept, (t_bytes, t_length, t_sort, t_start, t_end, t_value), (h_numbers, h_bits, h_size), w_told)) H := hP
          refine lv_aload_n hx hb dX6_dogs_61 rfl (lv_at hl 0 rfl) ?_
          refine va_get (D := g.1) (ci := 4) (v := .ref (ga g (1 + 0))) (C := RX6) (T := TX6) (N := 7) hx hb hts iwX6 hown hK hP 0 q_sp rfl 0 (by decide) hw0 (fun _ h9 => h9) rfl dX6_dogs_62 ?_
          refine lv_iconst (v := (1 : Int32)) hx hb dX6_dogs_65 (by decide) ?_
          obtain ⟨q12, hq12, hf⟩ := bd_some hf
          refine kr_W (st1 := []) (va_runV (As := [.int (1 : Int32)]) (rest := []) ⟨hx, hb, hml, hown, hts⟩ (ct_X2_pass l n g (fun P => (pk3 P (p1_paths, p1_water, p1_wall, p1_kind, p1_place, p1_facing, p1_age, p1_seeds, p1_season, p1_z, p1_spots) (p2_paths, p2_water, p2_wall, p2_kind, p2_place, p2_facing, p2_age, p2_seeds, p2_season, p2_z, p2_spots), w_isKept, (t_bytes, t_length, t_sort, t_start, t_end, t_value), (h_numbers, h_bits, h_size), w_told)) 0 (by decide) zP0 q10 p0_water p0_wall p0_kind s5.2.2.1 s5.2.2.2.1 s5.2.2.2.2.1 p0_seeds s5.2.2.2.2.2.1 q8.2 p0_spots (1 : Int32) q12 hq12) (cwV 1 hts gX6_dogs_X2_pass rfl rfl rfl hd_X2_pass ⟨Nat.le_of_ble_eq_true rfl, Nat.le_of_ble_eq_true rfl⟩) ⟨bl_C, va_recv hK hP (ci := 0) (q0 := (1 + 0)) rfl (e_pk (by decide) rfl (Q := (q10, p0_water, p0_wall, p0_kind, s5.2.2.1, s5.2.2.2.1, s5.2.2.2.2.1, p0_seeds, s5.2.2.2.2.2.1, q8.2, p0_spots))), pr_C rfl hB hP hS⟩ rfl rfl hl.1 rfl (lv_room (Nat.le_of_ble_eq_true rfl)) dX6_dogs_66 ⟨Nat.le_refl _, Nat.le_refl _⟩) hS rfl (fun hn13 H locs hP hS => ?_)
          have hP : va_P g.1 vwCl (cw g (pk3 (q12.1, p0_water, p0_wall, p0_kind, q12.2.1, q12.2.2.1, q12.2.2.2.1, p0_seeds, q12.2.2.2.2, q8.2, p0_spots) (p1_paths, p1_water, p1_wall, p1_kind, p1_place, p1_facing, p1_age, p1_seeds, p1_season, p1_z, p1_spots) (p2_paths, p2_water, p2_wall, p2_kind, p2_place, p2_facing, p2_age, p2_seeds, p2_season, p2_z, p2_spots), w_isKept, (t_bytes, t_length, t_sort, t_start, t_end, t_value), (h_numbers, h_bits, h_size), w_told)) H := hP
          refine lv_iinc (v := (s5.1 + (1 : Int32))) (lv' := [(2, .int (s5.1 + (1 : Int32))), (0, .ref (ga g 0)), (1, .int a1)]) hx hb dX6_dogs_69 hl (k := 2) rfl (congrArg (fun y => s5.1 + y) (by decide : Int32.ofInt (1) = (1 : Int32))) (by decide) rfl (fun ls hl => ?_)
          refine lv_goto (tgt := 38) hx hb dX6_dogs_72 (by decide) ?_
          exact hback1 _ (Option.some.inj hf).symm H locs ls hP hS (lv_sub hl [1, 2, 0] rfl)
    · have hf := (if_neg hc4).symm.trans hf
      refine lv_aload_n hx hb dX6_dogs_30 rfl (lv_at hl 0 rfl) ?_
      refine lv_iconst (v := (4 : Int32)) hx hb dX6_dogs_31 (by decide) ?_
      obtain ⟨q16, hq16, hf⟩ := bd_some hf
      refine kr_W (st1 := [.int q16.1]) (va_runV (As := [.int (4 : Int32)]) (rest := []) ⟨hx, hb, hml, hown, hts⟩ (ct_X6_finding l n g p0_paths p0_water p0_wall p0_kind p0_place p0_facing p0_age p0_seeds p0_season p0_z p0_spots p1_paths p1_water p1_wall p1_kind p1_place p1_facing p1_age p1_seeds p1_season p1_z p1_spots p2_paths p2_water p2_wall p2_kind p2_place p2_facing p2_age p2_seeds p2_season p2_z p2_spots t_bytes t_length t_sort t_start t_end t_value h_numbers h_bits h_size w_isKept w_told (4 : Int32) q16 hq16) (cwV 1 hts gX6_dogs_X6_finding rfl rfl rfl hd_X6_finding ⟨Nat.le_of_ble_eq_true rfl, Nat.le_of_ble_eq_true rfl⟩) ⟨bl_C, va_recv hK hP (ci := 4) (q0 := 0) rfl q_sp, pr_C rfl hB hP hS⟩ rfl rfl hl.1 rfl (lv_room (Nat.le_of_ble_eq_true rfl)) dX6_dogs_32 ⟨Nat.le_refl _, Nat.le_refl _⟩) hS rfl (fun hn17 H locs hP hS => ?_)
      have hP : va_P g.1 vwCl (cw g (pk3 (p0_paths, p0_water, p0_wall, p0_kind, p0_place, p0_facing, p0_age, p0_seeds, p0_season, p0_z, p0_spots) (p1_paths, p1_water, p1_wall, p1_kind, p1_place, p1_facing, p1_age, p1_seeds, p1_season, p1_z, p1_spots) (p2_paths, p2_water, p2_wall, p2_kind, p2_place, p2_facing, p2_age, p2_seeds, p2_season, p2_z, p2_spots), w_isKept, (t_bytes, t_length, t_sort, t_start, t_end, t_value), (h_numbers, h_bits, h_size), q16.2)) H := hP
      have hres : (q16.1, p0_paths, p0_place, p0_facing, p0_age, p0_season, p0_z, q16.2) = res := (Option.some.inj hf)
      have hP := w_eq (congrArg (fun z => cw g (pk3 (z.2.1, p0_water, p0_wall, p0_kind, z.2.2.1, z.2.2.2.1, z.2.2.2.2.1, p0_seeds, z.2.2.2.2.2.1, z.2.2.2.2.2.2.1, p0_spots) (p1_paths, p1_water, p1_wall, p1_kind, p1_place, p1_facing, p1_age, p1_seeds, p1_season, p1_z, p1_spots) (p2_paths, p2_water, p2_wall, p2_kind, p2_place, p2_facing, p2_age, p2_seeds, p2_season, p2_z, p2_spots), w_isKept, (t_bytes, t_length, t_sort, t_start, t_end, t_value), (h_numbers, h_bits, h_size), z.2.2.2.2.2.2.2)) hres) hP
      exact W.iret (v := q16.1) hx hb hr (fun t ht hW => ⟨congrArg (fun z => Outcome.returned (some (Value.int z.1))) hres, trivial, by rw [ht]; exact hP, hS.F ht⟩) hS.2.2 dX6_dogs_35
  · have hf := (if_pos hc3).symm.trans hf
    refine lv_aload_n hx hb dX6_dogs_10 rfl (lv_at hl 0 rfl) ?_
    refine lv_iconst (v := (0 : Int32)) hx hb dX6_dogs_11 (by decide) ?_
    obtain ⟨q18, hq18, hf⟩ := bd_some hf
    refine kr_W (st1 := [.int q18.1]) (va_runV (As := [.int (0 : Int32)]) (rest := []) ⟨hx, hb, hml, hown, hts⟩ (ct_X6_finding l n g p0_paths p0_water p0_wall p0_kind p0_place p0_facing p0_age p0_seeds p0_season p0_z p0_spots p1_paths p1_water p1_wall p1_kind p1_place p1_facing p1_age p1_seeds p1_season p1_z p1_spots p2_paths p2_water p2_wall p2_kind p2_place p2_facing p2_age p2_seeds p2_season p2_z p2_spots t_bytes t_length t_sort t_start t_end t_value h_numbers h_bits h_size w_isKept w_told (0 : Int32) q18 hq18) (cwV 1 hts gX6_dogs_X6_finding rfl rfl rfl hd_X6_finding ⟨Nat.le_of_ble_eq_true rfl, Nat.le_of_ble_eq_true rfl⟩) ⟨bl_C, va_recv hK hP (ci := 4) (q0 := 0) rfl q_sp, pr_C rfl hB hP hS⟩ rfl rfl hl.1 rfl (lv_room (Nat.le_of_ble_eq_true rfl)) dX6_dogs_12 ⟨Nat.le_refl _, Nat.le_refl _⟩) hS rfl (fun hn19 H locs hP hS => ?_)
    have hP : va_P g.1 vwCl (cw g (pk3 (p0_paths, p0_water, p0_wall, p0_kind, p0_place, p0_facing, p0_age, p0_seeds, p0_season, p0_z, p0_spots) (p1_paths, p1_water, p1_wall, p1_kind, p1_place, p1_facing, p1_age, p1_seeds, p1_season, p1_z, p1_spots) (p2_paths, p2_water, p2_wall, p2_kind, p2_place, p2_facing, p2_age, p2_seeds, p2_season, p2_z, p2_spots), w_isKept, (t_bytes, t_length, t_sort, t_start, t_end, t_value), (h_numbers, h_bits, h_size), q18.2)) H := hP
    have hres : (q18.1, p0_paths, p0_place, p0_facing, p0_age, p0_season, p0_z, q18.2) = res := (Option.some.inj hf)
    have hP := w_eq (congrArg (fun z => cw g (pk3 (z.2.1, p0_water, p0_wall, p0_kind, z.2.2.1, z.2.2.2.1, z.2.2.2.2.1, p0_seeds, z.2.2.2.2.2.1, z.2.2.2.2.2.2.1, p0_spots) (p1_paths, p1_water, p1_wall, p1_kind, p1_place, p1_facing, p1_age, p1_seeds, p1_season, p1_z, p1_spots) (p2_paths, p2_water, p2_wall, p2_kind, p2_place, p2_facing, p2_age, p2_seeds, p2_season, p2_z, p2_spots), w_isKept, (t_bytes, t_length, t_sort, t_start, t_end, t_value), (h_numbers, h_bits, h_size), z.2.2.2.2.2.2.2)) hres) hP
    exact W.iret (v := q18.1) hx hb hr (fun t ht hW => ⟨congrArg (fun z => Outcome.returned (some (Value.int z.1))) hres, trivial, by rw [ht]; exact hP, hS.F ht⟩) hS.2.2 dX6_dogs_15
set_option maxHeartbeats 4000000 in
set_option maxRecDepth 100000 in
theorem ct_X6_commonDivisor (l : Launch) (n : Nat) (a0 : Int32) (a1 : Int32) (res : Int32) (hf : fX6_commonDivisor n a0 a1 = some res) : Met l yX6_commonDivisor wsX6_commonDivisor ({ frames := 0, cells := 0, slots := 0, locals := 0 }) (va_Pc [.int a0, .int a1] NW) (qS (some (.int res)) True) 0 0 (fun _ => False) := by
  refine Met.ofW (cc := cX6_commonDivisor) (maxL := 6) (ret := (some .int)) (by decide) rfl ?_
  intro p e s m args below meth c s₁ B hml hv
  obtain ⟨rfl, hI⟩ := hv
  have hx := B.exec
  have hb := B.bytes
  have hr := B.returns
  have hts := atoms_spec (ws := wsX6_commonDivisor) B.pre
  have hown : s.vm.findClass RX6 = some m.cls := findClass_of_methodNamed B.named
  have hlocks := B.notSynchronized
  have hNW : NW s := hI
  have hl := lv_entry ([.int a0, .int a1]) (n := 6) (Nat.le_of_ble_eq_true rfl)
  rw [lg_entry_eq]
  generalize (lg_sl ([.int a0, .int a1]) ++ List.replicate (6 - (lg_sl ([.int a0, .int a1])).length) Slot.unset).toArray = ls at hl ⊢
  have hl : lv_has ls 6 [(0, .int a0), (1, .int a1)] := hl
  unfold fX6_commonDivisor at hf
  refine lv_iload_n hx hb dX6_commonDivisor_0 rfl (lv_at hl 1 rfl) ?_
  refine lv_istore_n (lv' := [(2, .int a1), (0, .int a0), (1, .int a1)]) hx hb dX6_commonDivisor_1 rfl hl (by decide) rfl (fun ls hl => ?_)
  refine lv_iload_n hx hb dX6_commonDivisor_2 rfl (lv_at hl 1 rfl) ?_
  refine lv_istore_n (lv' := [(3, .int a0), (2, .int a1), (0, .int a0), (1, .int a1)]) hx hb dX6_commonDivisor_3 rfl hl (by decide) rfl (fun ls hl => ?_)
  refine lv_iconst (v := (0 : Int32)) hx hb dX6_commonDivisor_4 (by decide) ?_
  refine lv_istore (lv' := [(4, .int (0 : Int32)), (3, .int a0), (2, .int a1), (0, .int a0), (1, .int a1)]) hx hb dX6_commonDivisor_5 hl (by decide) rfl (fun ls hl => ?_)
  refine lp_run hf (fun s1 => ∀ (ls : Array Slot), lv_has ls 6 [(2, .int s1.1), (3, .int s1.2.1), (4, .int s1.2.2)] → W p l e (headSpec wsX6_commonDivisor ({ frames := 0, cells := 0, slots := 0, locals := 0 })).room s m ([.int a0, .int a1] : List Value).toArray below meth c s.heap [] 0 0 (MQ below (qS (some (.int res)) True) ([.int a0, .int a1] : List Value).toArray s 0 0 (fun _ => False)) (F0 m 7 ls [])) (fun v2 => ∀ (ls : Array Slot), lv_has ls 6 [(2, .int v2.1)] → W p l e (headSpec wsX6_commonDivisor ({ frames := 0, cells := 0, slots := 0, locals := 0 })).room s m ([.int a0, .int a1] : List Value).toArray below meth c s.heap [] 0 0 (MQ below (qS (some (.int res)) True) ([.int a0, .int a1] : List Value).toArray s 0 0 (fun _ => False)) (F0 m 34 ls [])) ?_ ?_ _ (lv_sub hl [2, 1, 0] rfl)
  · intro v2 hf ls hl
    refine lv_iload_n hx hb dX6_commonDivisor_34 rfl (lv_at hl 0 rfl) ?_
    have hres : v2.1 = res := (Option.some.inj hf)
    exact W.iret (v := v2.1) hx hb hr (fun t ht hW => ⟨congrArg (fun z => Outcome.returned (some (Value.int z))) hres, trivial, ht⟩) t_nil dX6_commonDivisor_35
  · intro s1 r1 hf hback1 hexit1 ls hl
    refine lv_iload hx hb dX6_commonDivisor_7 (lv_at hl 2 rfl) ?_
    refine lv_bipush (v := (64 : Int32)) hx hb dX6_commonDivisor_9 (by decide) ?_
    refine lv_icmp_ge (tgt := 34) hx hb dX6_commonDivisor_11 (by decide) (fun hc3 => ?_) (fun hc3 => ?_)
    · have hf := (if_pos hc3).symm.trans hf
      exact hexit1 (s1.1, s1.2.1, s1.2.2) (Option.some.inj hf).symm ls (lv_sub hl [0] rfl)
    · have hf := (if_neg hc3).symm.trans hf
      refine lv_iload_n hx hb dX6_commonDivisor_14 rfl (lv_at hl 1 rfl) ?_
      refine lv_if_le (tgt := 34) hx hb dX6_commonDivisor_15 (by decide) (fun hc4 => ?_) (fun hc4 => ?_)
      · have hf := (if_pos hc4).symm.trans hf
        exact hexit1 (s1.1, s1.2.1, s1.2.2) (Option.some.inj hf).symm ls (lv_sub hl [0] rfl)
      · have hf := (if_neg hc4).symm.trans hf
        refine lv_iload_n hx hb dX6_commonDivisor_18 rfl (lv_at hl 0 rfl) ?_
        refine lv_iload_n hx hb dX6_commonDivisor_19 rfl (lv_at hl 1 rfl) ?_
        obtain ⟨hg5, hf⟩ := gd_some hf
        refine lv_irem hx hb dX6_commonDivisor_20 hg5 ?_
        refine lv_istore (lv' := [(5, .int (s1.1 - s1.1 / s1.2.1 * s1.2.1)), (2, .int s1.1), (3, .int s1.2.1), (4, .int s1.2.2)]) hx hb dX6_commonDivisor_21 hl (by decide) rfl (fun ls hl => ?_)
        refine lv_iload_n hx hb dX6_commonDivisor_23 rfl (lv_at hl 2 rfl) ?_
        refine lv_istore_n (lv' := [(2, .int s1.2.1), (5, .int (s1.1 - s1.1 / s1.2.1 * s1.2.1)), (3, .int s1.2.1), (4, .int s1.2.2)]) hx hb dX6_commonDivisor_24 rfl hl (by decide) rfl (fun ls hl => ?_)
        refine lv_iload hx hb dX6_commonDivisor_25 (lv_at hl 1 rfl) ?_
        refine lv_istore_n (lv' := [(3, .int (s1.1 - s1.1 / s1.2.1 * s1.2.1)), (2, .int s1.2.1), (5, .int (s1.1 - s1.1 / s1.2.1 * s1.2.1)), (4, .int s1.2.2)]) hx hb dX6_commonDivisor_27 rfl hl (by decide) rfl (fun ls hl => ?_)
        refine lv_iinc (v := (s1.2.2 + (1 : Int32))) (lv' := [(4, .int (s1.2.2 + (1 : Int32))), (3, .int (s1.1 - s1.1 / s1.2.1 * s1.2.1)), (2, .int s1.2.1), (5, .int (s1.1 - s1.1 / s1.2.1 * s1.2.1))]) hx hb dX6_commonDivisor_28 hl (k := 3) rfl (congrArg (fun y => s1.2.2 + y) (by decide : Int32.ofInt (1) = (1 : Int32))) (by decide) rfl (fun ls hl => ?_)
        refine lv_goto (tgt := 7) hx hb dX6_commonDivisor_31 (by decide) ?_
        exact hback1 _ (Option.some.inj hf).symm ls (lv_sub hl [2, 1, 0] rfl)
set_option maxHeartbeats 4000000 in
set_option maxRecDepth 100000 in
theorem ct_X6_power (l : Launch) (n : Nat) (a0 : Int32) (a1 : Int32) (res : Int64) (hf : fX6_power n a0 a1 = some res) : Met l yX6_power wsX6_power ({ frames := 0, cells := 0, slots := 0, locals := 0 }) (va_Pc [.int a0, .int a1] NW) (qS (some (.long res)) True) 0 0 (fun _ => False) := by
  refine Met.ofW (cc := cX6_power) (maxL := 5) (ret := (some .long)) (by decide) rfl ?_
  intro p e s m args below meth c s₁ B hml hv
  obtain ⟨rfl, hI⟩ := hv
  have hx := B.exec
  have hb := B.bytes
  have hr := B.returns
  have hts := atoms_spec (ws := wsX6_power) B.pre
  have hown : s.vm.findClass RX6 = some m.cls := findClass_of_methodNamed B.named
  have hlocks := B.notSynchronized
  have hNW : NW s := hI
  have hl := lv_entry ([.int a0, .int a1]) (n := 5) (Nat.le_of_ble_eq_true rfl)
  rw [lg_entry_eq]
  generalize (lg_sl ([.int a0, .int a1]) ++ List.replicate (5 - (lg_sl ([.int a0, .int a1])).length) Slot.unset).toArray = ls at hl ⊢
  have hl : lv_has ls 5 [(0, .int a0), (1, .int a1)] := hl
  unfold fX6_power at hf
  refine lv_lconst (v := (1 : Int64)) hx hb dX6_power_0 (by decide) ?_
  refine lv_lstore_n (lv' := [(2, .long (1 : Int64)), (0, .int a0), (1, .int a1)]) hx hb dX6_power_1 rfl hl (by decide) rfl (fun ls hl => ?_)
  refine lv_iconst (v := (0 : Int32)) hx hb dX6_power_2 (by decide) ?_
  refine lv_istore (lv' := [(4, .int (0 : Int32)), (2, .long (1 : Int64)), (0, .int a0), (1, .int a1)]) hx hb dX6_power_3 hl (by decide) rfl (fun ls hl => ?_)
  refine lp_run hf (fun s1 => ∀ (ls : Array Slot), lv_has ls 5 [(0, .int a0), (1, .int a1), (2, .long s1.1), (4, .int s1.2)] → W p l e (headSpec wsX6_power ({ frames := 0, cells := 0, slots := 0, locals := 0 })).room s m ([.int a0, .int a1] : List Value).toArray below meth c s.heap [] 0 0 (MQ below (qS (some (.long res)) True) ([.int a0, .int a1] : List Value).toArray s 0 0 (fun _ => False)) (F0 m 5 ls [])) (fun v2 => ∀ (ls : Array Slot), lv_has ls 5 [(2, .long v2.1)] → W p l e (headSpec wsX6_power ({ frames := 0, cells := 0, slots := 0, locals := 0 })).room s m ([.int a0, .int a1] : List Value).toArray below meth c s.heap [] 0 0 (MQ below (qS (some (.long res)) True) ([.int a0, .int a1] : List Value).toArray s 0 0 (fun _ => False)) (F0 m 22 ls [])) ?_ ?_ _ (lv_sub hl [2, 3, 1, 0] rfl)
  · intro v2 hf ls hl
    refine lv_lload_n hx hb dX6_power_22 rfl (lv_at hl 0 rfl) ?_
    have hres : v2.1 = res := (Option.some.inj hf)
    exact W.lret (v := v2.1) hx hb hr (fun t ht hW => ⟨congrArg (fun z => Outcome.returned (some (Value.long z))) hres, trivial, ht⟩) t_nil dX6_power_23
  · intro s1 r1 hf hback1 hexit1 ls hl
    refine lv_iload hx hb dX6_power_5 (lv_at hl 3 rfl) ?_
    refine lv_iload_n hx hb dX6_power_7 rfl (lv_at hl 1 rfl) ?_
    refine lv_icmp_ge (tgt := 22) hx hb dX6_power_8 (by decide) (fun hc3 => ?_) (fun hc3 => ?_)
    · have hf := (if_pos hc3).symm.trans hf
      exact hexit1 (s1.1, s1.2) (Option.some.inj hf).symm ls (lv_sub hl [2] rfl)
    · have hf := (if_neg hc3).symm.trans hf
      refine lv_lload_n hx hb dX6_power_11 rfl (lv_at hl 2 rfl) ?_
      refine lv_iload_n hx hb dX6_power_12 rfl (lv_at hl 0 rfl) ?_
      refine lv_i2l (v := a0.toInt64) hx hb dX6_power_13 rfl ?_
      refine lv_lmul hx hb dX6_power_14 ?_
      refine lv_lstore_n (lv' := [(2, .long (s1.1 * a0.toInt64)), (0, .int a0), (1, .int a1), (4, .int s1.2)]) hx hb dX6_power_15 rfl hl (by decide) rfl (fun ls hl => ?_)
      refine lv_iinc (v := (s1.2 + (1 : Int32))) (lv' := [(4, .int (s1.2 + (1 : Int32))), (2, .long (s1.1 * a0.toInt64)), (0, .int a0), (1, .int a1)]) hx hb dX6_power_16 hl (k := 3) rfl (congrArg (fun y => s1.2 + y) (by decide : Int32.ofInt (1) = (1 : Int32))) (by decide) rfl (fun ls hl => ?_)
      refine lv_goto (tgt := 5) hx hb dX6_power_19 (by decide) ?_
      exact hback1 _ (Option.some.inj hf).symm ls (lv_sub hl [2, 3, 1, 0] rfl)
set_option maxHeartbeats 4000000 in
set_option maxRecDepth 100000 in
theorem ct_X6_odds (l : Launch) (n : Nat) (g : GC) (p0_paths : Nat → Int32) (p0_water : Int64) (p0_wall : Int64) (p0_kind : Nat → Int32) (p0_place : Nat → Int32) (p0_facing : Nat → Int32) (p0_age : Nat → Int32) (p0_seeds : Int32) (p0_season : Int32) (p0_z : Int32) (p0_spots : Nat → Int32) (p1_paths : Nat → Int32) (p1_water : Int64) (p1_wall : Int64) (p1_kind : Nat → Int32) (p1_place : Nat → Int32) (p1_facing : Nat → Int32) (p1_age : Nat → Int32) (p1_seeds : Int32) (p1_season : Int32) (p1_z : Int32) (p1_spots : Nat → Int32) (p2_paths : Nat → Int32) (p2_water : Int64) (p2_wall : Int64) (p2_kind : Nat → Int32) (p2_place : Nat → Int32) (p2_facing : Nat → Int32) (p2_age : Nat → Int32) (p2_seeds : Int32) (p2_season : Int32) (p2_z : Int32) (p2_spots : Nat → Int32) (t_bytes : Nat → Int32) (t_length : Int32) (t_sort : Int32) (t_start : Int32) (t_end : Int32) (t_value : Int32) (h_numbers : Nat → Nat → Int32) (h_bits : Nat → Int32) (h_size : Nat → Int32) (w_isKept : Int32) (w_told : Nat → Int32) (a1 : Int32) (a2 : Int32) (res : Int64 × (Nat → Int32)) (hf : fX6_odds n a1 a2 p0_paths w_told = some res) : Met l yX6_odds wsX6_odds ({ frames := 3, cells := 0, slots := 0, locals := 63 }) (va_Pc [.ref (ga g 0), .int a1, .int a2] (cI g (pk3 (p0_paths, p0_water, p0_wall, p0_kind, p0_place, p0_facing, p0_age, p0_seeds, p0_season, p0_z, p0_spots) (p1_paths, p1_water, p1_wall, p1_kind, p1_place, p1_facing, p1_age, p1_seeds, p1_season, p1_z, p1_spots) (p2_paths, p2_water, p2_wall, p2_kind, p2_place, p2_facing, p2_age, p2_seeds, p2_season, p2_z, p2_spots), w_isKept, (t_bytes, t_length, t_sort, t_start, t_end, t_value), (h_numbers, h_bits, h_size), w_told))) (qW (some (.long res.1)) True g.1 (cw g (pk3 (p0_paths, p0_water, p0_wall, p0_kind, p0_place, p0_facing, p0_age, p0_seeds, p0_season, p0_z, p0_spots) (p1_paths, p1_water, p1_wall, p1_kind, p1_place, p1_facing, p1_age, p1_seeds, p1_season, p1_z, p1_spots) (p2_paths, p2_water, p2_wall, p2_kind, p2_place, p2_facing, p2_age, p2_seeds, p2_season, p2_z, p2_spots), w_isKept, (t_bytes, t_length, t_sort, t_start, t_end, t_value), (h_numbers, h_bits, h_size), res.2)) (gA g)) 0 0 (gA g) := by
  refine Met.ofW (cc := cX6_odds) (maxL := 6) (ret := (some .long)) (by decide) rfl ?_
  intro p e s m args below meth c s₁ B hml hv
  obtain ⟨rfl, hI⟩ := hv
  have hx := B.exec
  have hb := B.bytes
  have hr := B.returns
  have hts := atoms_spec (ws := wsX6_odds) B.pre
  have hown : s.vm.findClass RX6 = some m.cls := findClass_of_methodNamed B.named
  have hlocks := B.notSynchronized
  have hP := hI.1
  have hB := hI.2
  have hK := hB.1
  have hNW := hB.2.1
  have hS : va_S (gA g) s.heap s.heap [] := va_S.rf
  have hw0 := hts (.fieldLink RX6 10 "SownPaths" "park" "LSownPaths$Park;") (by decide +kernel)
  have iwX6 : ∀ w ∈ wsX60, w ∈ wsX6_odds := fun w h => List.mem_cons_of_mem _ (List.mem_append_left _ (List.mem_append_right _ h))
  have hl := lv_entry ([.ref (ga g 0), .int a1, .int a2]) (n := 6) (Nat.le_of_ble_eq_true rfl)
  rw [lg_entry_eq]
  generalize (lg_sl ([.ref (ga g 0), .int a1, .int a2]) ++ List.replicate (6 - (lg_sl ([.ref (ga g 0), .int a1, .int a2])).length) Slot.unset).toArray = ls at hl ⊢
  have hl : lv_has ls 6 [(0, .ref (ga g 0)), (1, .int a1), (2, .int a2)] := hl
  unfold fX6_odds at hf
  refine lv_iload_n hx hb dX6_odds_0 rfl (lv_at hl 1 rfl) ?_
  refine lv_iconst (v := (0 : Int32)) hx hb dX6_odds_1 (by decide) ?_
  refine lv_bipush (v := (11 : Int32)) hx hb dX6_odds_2 (by decide) ?_
  obtain ⟨q1, hq1, hf⟩ := bd_some hf
  refine kr_S (st1 := [.int q1]) (va_runS (As := [.int a1, .int (0 : Int32), .int (11 : Int32)]) (rest := []) ⟨hx, hb, hml, hown, hts⟩ (ct_X6_within l n a1 (0 : Int32) (11 : Int32) q1 hq1) (va_cwS 3 hts gX6_odds_X6_within rfl rfl rfl hn_X6_within ⟨Nat.le_of_ble_eq_true rfl, Nat.le_of_ble_eq_true rfl⟩) ⟨bl_N, pr_N rfl hNW⟩ rfl rfl hl.1 rfl (lv_room (Nat.le_of_ble_eq_true rfl)) dX6_odds_4 ⟨Nat.le_refl _, Nat.le_refl _⟩) rfl (fun hn2 => ?_)
  refine lv_if_eq (tgt := 19) hx hb dX6_odds_7 (by decide) (fun hc3 => ?_) (fun hc3 => ?_)
  · have hf := (if_pos hc3).symm.trans hf
    refine lv_aload_n hx hb dX6_odds_19 rfl (lv_at hl 0 rfl) ?_
    refine lv_iconst (v := (0 : Int32)) hx hb dX6_odds_20 (by decide) ?_
    obtain ⟨q4, hq4, hf⟩ := bd_some hf
    refine kr_W (st1 := [.int q4.1]) (va_runV (As := [.int (0 : Int32)]) (rest := []) ⟨hx, hb, hml, hown, hts⟩ (ct_X6_finding l n g p0_paths p0_water p0_wall p0_kind p0_place p0_facing p0_age p0_seeds p0_season p0_z p0_spots p1_paths p1_water p1_wall p1_kind p1_place p1_facing p1_age p1_seeds p1_season p1_z p1_spots p2_paths p2_water p2_wall p2_kind p2_place p2_facing p2_age p2_seeds p2_season p2_z p2_spots t_bytes t_length t_sort t_start t_end t_value h_numbers h_bits h_size w_isKept w_told (0 : Int32) q4 hq4) (cwV 1 hts gX6_odds_X6_finding rfl rfl rfl hd_X6_finding ⟨Nat.le_of_ble_eq_true rfl, Nat.le_of_ble_eq_true rfl⟩) ⟨bl_C, va_recv hK hP (ci := 4) (q0 := 0) rfl q_sp, pr_C rfl hB hP hS⟩ rfl rfl hl.1 rfl (lv_room (Nat.le_of_ble_eq_true rfl)) dX6_odds_21 ⟨Nat.le_refl _, Nat.le_refl _⟩) hS rfl (fun hn5 H locs hP hS => ?_)
    have hP : va_P g.1 vwCl (cw g (pk3 (p0_paths, p0_water, p0_wall, p0_kind, p0_place, p0_facing, p0_age, p0_seeds, p0_season, p0_z, p0_spots) (p1_paths, p1_water, p1_wall, p1_kind, p1_place, p1_facing, p1_age, p1_seeds, p1_season, p1_z, p1_spots) (p2_paths, p2_water, p2_wall, p2_kind, p2_place, p2_facing, p2_age, p2_seeds, p2_season, p2_z, p2_spots), w_isKept, (t_bytes, t_length, t_sort, t_start, t_end, t_value), (h_numbers, h_bits, h_size), q4.2)) H := hP
    refine lv_i2l (v := q4.1.toInt64) hx hb dX6_odds_24 rfl ?_
    have hres : (q4.1.toInt64, q4.2) = res := (Option.some.inj hf)
    have hP := w_eq (congrArg (fun z => cw g (pk3 (p0_paths, p0_water, p0_wall, p0_kind, p0_place, p0_facing, p0_age, p0_seeds, p0_season, p0_z, p0_spots) (p1_paths, p1_water, p1_wall, p1_kind, p1_place, p1_facing, p1_age, p1_seeds, p1_season, p1_z, p1_spots) (p2_paths, p2_water, p2_wall, p2_kind, p2_place, p2_facing, p2_age, p2_seeds, p2_season, p2_z, p2_spots), w_isKept, (t_bytes, t_length, t_sort, t_start, t_end, t_value), (h_numbers, h_bits, h_size), z.2)) hres) hP
    exact W.lret (v := q4.1.toInt64) hx hb hr (fun t ht hW => ⟨congrArg (fun z => Outcome.returned (some (Value.long z.1))) hres, trivial, by rw [ht]; exact hP, hS.F ht⟩) hS.2.2 dX6_odds_25
  · have hf := (if_neg hc3).symm.trans hf
    refine lv_iload_n hx hb dX6_odds_10 rfl (lv_at hl 2 rfl) ?_
    refine lv_iconst (v := (0 : Int32)) hx hb dX6_odds_11 (by decide) ?_
    refine lv_iconst (v := (1 : Int32)) hx hb dX6_odds_12 (by decide) ?_
    obtain ⟨q6, hq6, hf⟩ := bd_some hf
    refine kr_S (st1 := [.int q6]) (va_runS (As := [.int a2, .int (0 : Int32), .int (1 : Int32)]) (rest := []) ⟨hx, hb, hml, hown, hts⟩ (ct_X6_within l n a2 (0 : Int32) (1 : Int32) q6 hq6) (va_cwS 3 hts gX6_odds_X6_within rfl rfl rfl hn_X6_within ⟨Nat.le_of_ble_eq_true rfl, Nat.le_of_ble_eq_true rfl⟩) ⟨bl_N, pr_N rfl hNW⟩ rfl rfl hl.1 rfl (lv_room (Nat.le_of_ble_eq_true rfl)) dX6_odds_13 ⟨Nat.le_refl _, Nat.le_refl _⟩) rfl (fun hn7 => ?_)
    refine lv_if_ne (tgt := 26) hx hb dX6_odds_16 (by decide) (fun hc8 => ?_) (fun hc8 => ?_)
    · have hf := (if_neg hc8).symm.trans hf
      refine lv_bipush (v := (36 : Int32)) hx hb dX6_odds_26 (by decide) ?_
      refine lv_aload_n hx hb dX6_odds_28 rfl (lv_at hl 0 rfl) ?_
      refine va_get (D := g.1) (ci := 4) (v := .ref (ga g (1 + 0))) (C := RX6) (T := TX6) (N := 7) hx hb hts iwX6 hown hK hP 0 q_sp rfl 0 (by decide) hw0 (fun _ h9 => h9) rfl dX6_odds_29 ?_
      obtain ⟨q9, hq9, hf⟩ := bd_some hf
      refine kr_S (st1 := [.int q9, .int (36 : Int32)]) (va_runV (As := []) (rest := [.int (36 : Int32)]) ⟨hx, hb, hml, hown, hts⟩ (ct_X2_pathCells l n g (pk3 (p0_paths, p0_water, p0_wall, p0_kind, p0_place, p0_facing, p0_age, p0_seeds, p0_season, p0_z, p0_spots) (p1_paths, p1_water, p1_wall, p1_kind, p1_place, p1_facing, p1_age, p1_seeds, p1_season, p1_z, p1_spots) (p2_paths, p2_water, p2_wall, p2_kind, p2_place, p2_facing, p2_age, p2_seeds, p2_season, p2_z, p2_spots), w_isKept, (t_bytes, t_length, t_sort, t_start, t_end, t_value), (h_numbers, h_bits, h_size), w_told) 0 (by decide) p0_paths p0_water p0_wall p0_kind p0_place p0_facing p0_age p0_seeds p0_season p0_z p0_spots rfl q9 hq9) (cwV 0 hts gX6_odds_X2_pathCells rfl rfl rfl hd_X2_pathCells ⟨Nat.le_of_ble_eq_true rfl, Nat.le_of_ble_eq_true rfl⟩) ⟨bl_C, va_recv hK hP (ci := 0) (q0 := (1 + 0)) rfl (e_pk (by decide) rfl (Q := (p0_paths, p0_water, p0_wall, p0_kind, p0_place, p0_facing, p0_age, p0_seeds, p0_season, p0_z, p0_spots))), pr_C rfl hB hP hS⟩ rfl rfl hl.1 rfl (lv_room (Nat.le_of_ble_eq_true rfl)) dX6_odds_32 ⟨Nat.le_refl _, Nat.le_refl _⟩) rfl (fun hn10 => ?_)
      refine lv_isub hx hb dX6_odds_35 ?_
      refine lv_istore_n (lv' := [(3, .int ((36 : Int32) - q9)), (0, .ref (ga g 0)), (1, .int a1), (2, .int a2)]) hx hb dX6_odds_36 rfl hl (by decide) rfl (fun ls hl => ?_)
      refine lv_iload_n hx hb dX6_odds_37 rfl (lv_at hl 0 rfl) ?_
      refine lv_bipush (v := (36 : Int32)) hx hb dX6_odds_38 (by decide) ?_
      obtain ⟨q11, hq11, hf⟩ := bd_some hf
      refine kr_S (st1 := [.int q11]) (va_runS (As := [.int ((36 : Int32) - q9), .int (36 : Int32)]) (rest := []) ⟨hx, hb, hml, hown, hts⟩ (ct_X6_commonDivisor l n ((36 : Int32) - q9) (36 : Int32) q11 hq11) (va_cwS 2 hts gX6_odds_X6_commonDivisor rfl rfl rfl hn_X6_commonDivisor ⟨Nat.le_of_ble_eq_true rfl, Nat.le_of_ble_eq_true rfl⟩) ⟨bl_N, pr_N rfl hNW⟩ rfl rfl hl.1 rfl (lv_room (Nat.le_of_ble_eq_true rfl)) dX6_odds_40 ⟨Nat.le_refl _, Nat.le_refl _⟩) rfl (fun hn12 => ?_)
      refine lv_istore (lv' := [(4, .int q11), (3, .int ((36 : Int32) - q9)), (0, .ref (ga g 0)), (1, .int a1), (2, .int a2)]) hx hb dX6_odds_43 hl (by decide) rfl (fun ls hl => ?_)
      refine lv_iload_n hx hb dX6_odds_45 rfl (lv_at hl 4 rfl) ?_
      refine lv_if_ne (tgt := 53) hx hb dX6_odds_46 (by decide) (fun hc13 => ?_) (fun hc13 => ?_)
      · have hf := (if_neg hc13).symm.trans hf
        refine lv_bipush (v := (36 : Int32)) hx hb dX6_odds_53 (by decide) ?_
        refine lv_istore (lv' := [(5, .int (36 : Int32)), (4, .int q11), (3, .int ((36 : Int32) - q9)), (0, .ref (ga g 0)), (1, .int a1), (2, .int a2)]) hx hb dX6_odds_55 hl (by decide) rfl (fun ls hl => ?_)
        refine lv_iload hx hb dX6_odds_57 (lv_at hl 1 rfl) ?_
        refine lv_if_le (tgt := 74) hx hb dX6_odds_59 (by decide) (fun hc14 => ?_) (fun hc14 => ?_)
        · have hf := (if_pos hc14).symm.trans hf
          refine lv_iload hx hb dX6_odds_74 (lv_at hl 0 rfl) ?_
          refine lv_iload_n hx hb dX6_odds_76 rfl (lv_at hl 4 rfl) ?_
          obtain ⟨q15, hq15, hf⟩ := bd_some hf
          refine kr_S (st1 := [.long q15]) (va_runS (As := [.int (36 : Int32), .int a1]) (rest := []) ⟨hx, hb, hml, hown, hts⟩ (ct_X6_power l n (36 : Int32) a1 q15 hq15) (va_cwS 2 hts gX6_odds_X6_power rfl rfl rfl hn_X6_power ⟨Nat.le_of_ble_eq_true rfl, Nat.le_of_ble_eq_true rfl⟩) ⟨bl_N, pr_N rfl hNW⟩ rfl rfl hl.1 rfl (lv_room (Nat.le_of_ble_eq_true rfl)) dX6_odds_77 ⟨Nat.le_refl _, Nat.le_refl _⟩) rfl (fun hn16 => ?_)
          have hres : (q15, w_told) = res := (Option.some.inj hf)
          have hP := w_eq (congrArg (fun z => cw g (pk3 (p0_paths, p0_water, p0_wall, p0_kind, p0_place, p0_facing, p0_age, p0_seeds, p0_season, p0_z, p0_spots) (p1_paths, p1_water, p1_wall, p1_kind, p1_place, p1_facing, p1_age, p1_seeds, p1_season, p1_z, p1_spots) (p2_paths, p2_water, p2_wall, p2_kind, p2_place, p2_facing, p2_age, p2_seeds, p2_season, p2_z, p2_spots), w_isKept, (t_bytes, t_length, t_sort, t_start, t_end, t_value), (h_numbers, h_bits, h_size), z.2)) hres) hP
          exact W.lret (v := q15) hx hb hr (fun t ht hW => ⟨congrArg (fun z => Outcome.returned (some (Value.long z.1))) hres, trivial, by rw [ht]; exact hP, hS.F ht⟩) hS.2.2 dX6_odds_80
        · have hf := (if_neg hc14).symm.trans hf
          refine lv_iload hx hb dX6_odds_62 (lv_at hl 0 rfl) ?_
          refine lv_iload hx hb dX6_odds_64 (lv_at hl 1 rfl) ?_
          obtain ⟨hg17, hf⟩ := gd_some hf
          refine lv_idiv hx hb dX6_odds_66 hg17 ?_
          refine lv_iload_n hx hb dX6_odds_67 rfl (lv_at hl 4 rfl) ?_
          obtain ⟨q18, hq18, hf⟩ := bd_some hf
          refine kr_S (st1 := [.long q18]) (va_runS (As := [.int ((36 : Int32) / q11), .int a1]) (rest := []) ⟨hx, hb, hml, hown, hts⟩ (ct_X6_power l n ((36 : Int32) / q11) a1 q18 hq18) (va_cwS 2 hts gX6_odds_X6_power rfl rfl rfl hn_X6_power ⟨Nat.le_of_ble_eq_true rfl, Nat.le_of_ble_eq_true rfl⟩) ⟨bl_N, pr_N rfl hNW⟩ rfl rfl hl.1 rfl (lv_room (Nat.le_of_ble_eq_true rfl)) dX6_odds_68 ⟨Nat.le_refl _, Nat.le_refl _⟩) rfl (fun hn19 => ?_)
          refine lv_goto (tgt := 80) hx hb dX6_odds_71 (by decide) ?_
          have hres : (q18, w_told) = res := (Option.some.inj hf)
          have hP := w_eq (congrArg (fun z => cw g (pk3 (p0_paths, p0_water, p0_wall, p0_kind, p0_place, p0_facing, p0_age, p0_seeds, p0_season, p0_z, p0_spots) (p1_paths, p1_water, p1_wall, p1_kind, p1_place, p1_facing, p1_age, p1_seeds, p1_season, p1_z, p1_spots) (p2_paths, p2_water, p2_wall, p2_kind, p2_place, p2_facing, p2_age, p2_seeds, p2_season, p2_z, p2_spots), w_isKept, (t_bytes, t_length, t_sort, t_start, t_end, t_value), (h_numbers, h_bits, h_size), z.2)) hres) hP
          exact W.lret (v := q18) hx hb hr (fun t ht hW => ⟨congrArg (fun z => Outcome.returned (some (Value.long z.1))) hres, trivial, by rw [ht]; exact hP, hS.F ht⟩) hS.2.2 dX6_odds_80
      · have hf := (if_pos hc13).symm.trans hf
        refine lv_iload_n hx hb dX6_odds_49 rfl (lv_at hl 1 rfl) ?_
        refine lv_goto (tgt := 55) hx hb dX6_odds_50 (by decide) ?_
        refine lv_istore (lv' := [(5, .int ((36 : Int32) - q9)), (4, .int q11), (3, .int ((36 : Int32) - q9)), (0, .ref (ga g 0)), (1, .int a1), (2, .int a2)]) hx hb dX6_odds_55 hl (by decide) rfl (fun ls hl => ?_)
        refine lv_iload hx hb dX6_odds_57 (lv_at hl 1 rfl) ?_
        refine lv_if_le (tgt := 74) hx hb dX6_odds_59 (by decide) (fun hc20 => ?_) (fun hc20 => ?_)
        · have hf := (if_pos hc20).symm.trans hf
          refine lv_iload hx hb dX6_odds_74 (lv_at hl 0 rfl) ?_
          refine lv_iload_n hx hb dX6_odds_76 rfl (lv_at hl 4 rfl) ?_
          obtain ⟨q21, hq21, hf⟩ := bd_some hf
          refine kr_S (st1 := [.long q21]) (va_runS (As := [.int ((36 : Int32) - q9), .int a1]) (rest := []) ⟨hx, hb, hml, hown, hts⟩ (ct_X6_power l n ((36 : Int32) - q9) a1 q21 hq21) (va_cwS 2 hts gX6_odds_X6_power rfl rfl rfl hn_X6_power ⟨Nat.le_of_ble_eq_true rfl, Nat.le_of_ble_eq_true rfl⟩) ⟨bl_N, pr_N rfl hNW⟩ rfl rfl hl.1 rfl (lv_room (Nat.le_of_ble_eq_true rfl)) dX6_odds_77 ⟨Nat.le_refl _, Nat.le_refl _⟩) rfl (fun hn22 => ?_)
          have hres : (q21, w_told) = res := (Option.some.inj hf)
          have hP := w_eq (congrArg (fun z => cw g (pk3 (p0_paths, p0_water, p0_wall, p0_kind, p0_place, p0_facing, p0_age, p0_seeds, p0_season, p0_z, p0_spots) (p1_paths, p1_water, p1_wall, p1_kind, p1_place, p1_facing, p1_age, p1_seeds, p1_season, p1_z, p1_spots) (p2_paths, p2_water, p2_wall, p2_kind, p2_place, p2_facing, p2_age, p2_seeds, p2_season, p2_z, p2_spots), w_isKept, (t_bytes, t_length, t_sort, t_start, t_end, t_value), (h_numbers, h_bits, h_size), z.2)) hres) hP
          exact W.lret (v := q21) hx hb hr (fun t ht hW => ⟨congrArg (fun z => Outcome.returned (some (Value.long z.1))) hres, trivial, by rw [ht]; exact hP, hS.F ht⟩) hS.2.2 dX6_odds_80
        · have hf := (if_neg hc20).symm.trans hf
          refine lv_iload hx hb dX6_odds_62 (lv_at hl 0 rfl) ?_
          refine lv_iload hx hb dX6_odds_64 (lv_at hl 1 rfl) ?_
          obtain ⟨hg23, hf⟩ := gd_some hf
          refine lv_idiv hx hb dX6_odds_66 hg23 ?_
          refine lv_iload_n hx hb dX6_odds_67 rfl (lv_at hl 4 rfl) ?_
          obtain ⟨q24, hq24, hf⟩ := bd_some hf
          refine kr_S (st1 := [.long q24]) (va_runS (As := [.int (((36 : Int32) - q9) / q11), .int a1]) (rest := []) ⟨hx, hb, hml, hown, hts⟩ (ct_X6_power l n (((36 : Int32) - q9) / q11) a1 q24 hq24) (va_cwS 2 hts gX6_odds_X6_power rfl rfl rfl hn_X6_power ⟨Nat.le_of_ble_eq_true rfl, Nat.le_of_ble_eq_true rfl⟩) ⟨bl_N, pr_N rfl hNW⟩ rfl rfl hl.1 rfl (lv_room (Nat.le_of_ble_eq_true rfl)) dX6_odds_68 ⟨Nat.le_refl _, Nat.le_refl _⟩) rfl (fun hn25 => ?_)
          refine lv_goto (tgt := 80) hx hb dX6_odds_71 (by decide) ?_
          have hres : (q24, w_told) = res := (Option.some.inj hf)
          have hP := w_eq (congrArg (fun z => cw g (pk3 (p0_paths, p0_water, p0_wall, p0_kind, p0_place, p0_facing, p0_age, p0_seeds, p0_season, p0_z, p0_spots) (p1_paths, p1_water, p1_wall, p1_kind, p1_place, p1_facing, p1_age, p1_seeds, p1_season, p1_z, p1_spots) (p2_paths, p2_water, p2_wall, p2_kind, p2_place, p2_facing, p2_age, p2_seeds, p2_season, p2_z, p2_spots), w_isKept, (t_bytes, t_length, t_sort, t_start, t_end, t_value), (h_numbers, h_bits, h_size), z.2)) hres) hP
          exact W.lret (v := q24) hx hb hr (fun t ht hW => ⟨congrArg (fun z => Outcome.returned (some (Value.long z.1))) hres, trivial, by rw [ht]; exact hP, hS.F ht⟩) hS.2.2 dX6_odds_80
    · have hf := (if_pos hc8).symm.trans hf
      refine lv_aload_n hx hb dX6_odds_19 rfl (lv_at hl 0 rfl) ?_
      refine lv_iconst (v := (0 : Int32)) hx hb dX6_odds_20 (by decide) ?_
      obtain ⟨q26, hq26, hf⟩ := bd_some hf
      refine kr_W (st1 := [.int q26.1]) (va_runV (As := [.int (0 : Int32)]) (rest := []) ⟨hx, hb, hml, hown, hts⟩ (ct_X6_finding l n g p0_paths p0_water p0_wall p0_kind p0_place p0_facing p0_age p0_seeds p0_season p0_z p0_spots p1_paths p1_water p1_wall p1_kind p1_place p1_facing p1_age p1_seeds p1_season p1_z p1_spots p2_paths p2_water p2_wall p2_kind p2_place p2_facing p2_age p2_seeds p2_season p2_z p2_spots t_bytes t_length t_sort t_start t_end t_value h_numbers h_bits h_size w_isKept w_told (0 : Int32) q26 hq26) (cwV 1 hts gX6_odds_X6_finding rfl rfl rfl hd_X6_finding ⟨Nat.le_of_ble_eq_true rfl, Nat.le_of_ble_eq_true rfl⟩) ⟨bl_C, va_recv hK hP (ci := 4) (q0 := 0) rfl q_sp, pr_C rfl hB hP hS⟩ rfl rfl hl.1 rfl (lv_room (Nat.le_of_ble_eq_true rfl)) dX6_odds_21 ⟨Nat.le_refl _, Nat.le_refl _⟩) hS rfl (fun hn27 H locs hP hS => ?_)
      have hP : va_P g.1 vwCl (cw g (pk3 (p0_paths, p0_water, p0_wall, p0_kind, p0_place, p0_facing, p0_age, p0_seeds, p0_season, p0_z, p0_spots) (p1_paths, p1_water, p1_wall, p1_kind, p1_place, p1_facing, p1_age, p1_seeds, p1_season, p1_z, p1_spots) (p2_paths, p2_water, p2_wall, p2_kind, p2_place, p2_facing, p2_age, p2_seeds, p2_season, p2_z, p2_spots), w_isKept, (t_bytes, t_length, t_sort, t_start, t_end, t_value), (h_numbers, h_bits, h_size), q26.2)) H := hP
      refine lv_i2l (v := q26.1.toInt64) hx hb dX6_odds_24 rfl ?_
      have hres : (q26.1.toInt64, q26.2) = res := (Option.some.inj hf)
      have hP := w_eq (congrArg (fun z => cw g (pk3 (p0_paths, p0_water, p0_wall, p0_kind, p0_place, p0_facing, p0_age, p0_seeds, p0_season, p0_z, p0_spots) (p1_paths, p1_water, p1_wall, p1_kind, p1_place, p1_facing, p1_age, p1_seeds, p1_season, p1_z, p1_spots) (p2_paths, p2_water, p2_wall, p2_kind, p2_place, p2_facing, p2_age, p2_seeds, p2_season, p2_z, p2_spots), w_isKept, (t_bytes, t_length, t_sort, t_start, t_end, t_value), (h_numbers, h_bits, h_size), z.2)) hres) hP
      exact W.lret (v := q26.1.toInt64) hx hb hr (fun t ht hW => ⟨congrArg (fun z => Outcome.returned (some (Value.long z.1))) hres, trivial, by rw [ht]; exact hP, hS.F ht⟩) hS.2.2 dX6_odds_25
set_option maxHeartbeats 4000000 in
set_option maxRecDepth 100000 in
theorem ct_X6_seed (l : Launch) (n : Nat) (g : GC) (p0_paths : Nat → Int32) (p0_water : Int64) (p0_wall : Int64) (p0_kind : Nat → Int32) (p0_place : Nat → Int32) (p0_facing : Nat → Int32) (p0_age : Nat → Int32) (p0_seeds : Int32) (p0_season : Int32) (p0_z : Int32) (p0_spots : Nat → Int32) (p1_paths : Nat → Int32) (p1_water : Int64) (p1_wall : Int64) (p1_kind : Nat → Int32) (p1_place : Nat → Int32) (p1_facing : Nat → Int32) (p1_age : Nat → Int32) (p1_seeds : Int32) (p1_season : Int32) (p1_z : Int32) (p1_spots : Nat → Int32) (p2_paths : Nat → Int32) (p2_water : Int64) (p2_wall : Int64) (p2_kind : Nat → Int32) (p2_place : Nat → Int32) (p2_facing : Nat → Int32) (p2_age : Nat → Int32) (p2_seeds : Int32) (p2_season : Int32) (p2_z : Int32) (p2_spots : Nat → Int32) (t_bytes : Nat → Int32) (t_length : Int32) (t_sort : Int32) (t_start : Int32) (t_end : Int32) (t_value : Int32) (h_numbers : Nat → Nat → Int32) (h_bits : Nat → Int32) (h_size : Nat → Int32) (w_isKept : Int32) (w_told : Nat → Int32) (a1 : Int32) (res : Int32 × Int32) (hf : fX6_seed n a1 p0_z = some res) : Met l yX6_seed wsX6_seed ({ frames := 0, cells := 0, slots := 0, locals := 0 }) (va_Pc [.ref (ga g 0), .int a1] (cI g (pk3 (p0_paths, p0_water, p0_wall, p0_kind, p0_place, p0_facing, p0_age, p0_seeds, p0_season, p0_z, p0_spots) (p1_paths, p1_water, p1_wall, p1_kind, p1_place, p1_facing, p1_age, p1_seeds, p1_season, p1_z, p1_spots) (p2_paths, p2_water, p2_wall, p2_kind, p2_place, p2_facing, p2_age, p2_seeds, p2_season, p2_z, p2_spots), w_isKept, (t_bytes, t_length, t_sort, t_start, t_end, t_value), (h_numbers, h_bits, h_size), w_told))) (qW (some (.int res.1)) True g.1 (cw g (pk3 (p0_paths, p0_water, p0_wall, p0_kind, p0_place, p0_facing, p0_age, p0_seeds, p0_season, res.2, p0_spots) (p1_paths, p1_water, p1_wall, p1_kind, p1_place, p1_facing, p1_age, p1_seeds, p1_season, p1_z, p1_spots) (p2_paths, p2_water, p2_wall, p2_kind, p2_place, p2_facing, p2_age, p2_seeds, p2_season, p2_z, p2_spots), w_isKept, (t_bytes, t_length, t_sort, t_start, t_end, t_value), (h_numbers, h_bits, h_size), w_told)) (gA g)) 0 0 (gA g) := by
  refine Met.ofW (cc := cX6_seed) (maxL := 3) (ret := (some .int)) (by decide) rfl ?_
  intro p e s m args below meth c s₁ B hml hv
  obtain ⟨rfl, hI⟩ := hv
  have hx := B.exec
  have hb := B.bytes
  have hr := B.returns
  have hts := atoms_spec (ws := wsX6_seed) B.pre
  have hown : s.vm.findClass RX6 = some m.cls := findClass_of_methodNamed B.named
  have hlocks := B.notSynchronized
  have hP := hI.1
  have hB := hI.2
  have hK := hB.1
  have hNW := hB.2.1
  have hS : va_S (gA g) s.heap s.heap [] := va_S.rf
  have hw0 := hts (.fieldLink RX6 10 "SownPaths" "park" "LSownPaths$Park;") (by decide +kernel)
  have iwX2 : ∀ w ∈ wsX20, w ∈ wsX6_seed := fun w h => List.mem_cons_of_mem _ (List.mem_append_right _ h)
  have iwX6 : ∀ w ∈ wsX60, w ∈ wsX6_seed := fun w h => List.mem_cons_of_mem _ (List.mem_append_left _ (List.mem_append_right _ h))
  have hl := lv_entry ([.ref (ga g 0), .int a1]) (n := 3) (Nat.le_of_ble_eq_true rfl)
  rw [lg_entry_eq]
  generalize (lg_sl ([.ref (ga g 0), .int a1]) ++ List.replicate (3 - (lg_sl ([.ref (ga g 0), .int a1])).length) Slot.unset).toArray = ls at hl ⊢
  have hl : lv_has ls 3 [(0, .ref (ga g 0)), (1, .int a1)] := hl
  unfold fX6_seed at hf
  refine lv_aload_n hx hb dX6_seed_0 rfl (lv_at hl 0 rfl) ?_
  refine va_get (D := g.1) (ci := 4) (v := .ref (ga g (1 + 0))) (C := RX6) (T := TX6) (N := 7) hx hb hts iwX6 hown hK hP 0 q_sp rfl 0 (by decide) hw0 (fun _ h9 => h9) rfl dX6_seed_1 ?_
  refine va_getN (D := g.1) (ci := 0) (v := .int p0_z) (C := RX2) (T := TX2) (N := 8) hx hb hts iwX2 hown hK hP (1 + 0) (e_pk (by decide) rfl (Q := (p0_paths, p0_water, p0_wall, p0_kind, p0_place, p0_facing, p0_age, p0_seeds, p0_season, p0_z, p0_spots))) rfl 6 (by decide) (nf_X6_242 hNW) (fun _ h9 => h9) rfl dX6_seed_4 ?_
  refine lv_istore_n (lv' := [(2, .int p0_z), (0, .ref (ga g 0)), (1, .int a1)]) hx hb dX6_seed_7 rfl hl (by decide) rfl (fun ls hl => ?_)
  refine lv_aload_n hx hb dX6_seed_8 rfl (lv_at hl 1 rfl) ?_
  refine va_get (D := g.1) (ci := 4) (v := .ref (ga g (1 + 0))) (C := RX6) (T := TX6) (N := 7) hx hb hts iwX6 hown hK hP 0 q_sp rfl 0 (by decide) hw0 (fun _ h9 => h9) rfl dX6_seed_9 ?_
  refine lv_iload_n hx hb dX6_seed_12 rfl (lv_at hl 2 rfl) ?_
  refine va_putN (D := g.1) (ci := 0) (v := .int a1) (ty := .int) (C := RX2) (T := TX2) (N := 8) hx hb hts iwX2 tyX2 tyX2_ok nmX2 hown hK hP (cD hB.2.2.1 _) hS (1 + 0) (e_pk (by decide) rfl (Q := (p0_paths, p0_water, p0_wall, p0_kind, p0_place, p0_facing, p0_age, p0_seeds, p0_season, p0_z, p0_spots))) rfl 6 (by decide) (nf_X6_242 hNW) (fun _ h9 => h9) rfl (tyX2_ok 6 (by decide)) rfl rfl (Nat.le_of_ble_eq_true rfl) dX6_seed_13 (fun H locs hP _ hS => ?_)
  have hP : va_P g.1 vwCl (cw g (pk3 (p0_paths, p0_water, p0_wall, p0_kind, p0_place, p0_facing, p0_age, p0_seeds, p0_season, a1, p0_spots) (p1_paths, p1_water, p1_wall, p1_kind, p1_place, p1_facing, p1_age, p1_seeds, p1_season, p1_z, p1_spots) (p2_paths, p2_water, p2_wall, p2_kind, p2_place, p2_facing, p2_age, p2_seeds, p2_season, p2_z, p2_spots), w_isKept, (t_bytes, t_length, t_sort, t_start, t_end, t_value), (h_numbers, h_bits, h_size), w_told)) H := w_eq (s_z (S := (fun P => (pk3 P (p1_paths, p1_water, p1_wall, p1_kind, p1_place, p1_facing, p1_age, p1_seeds, p1_season, p1_z, p1_spots) (p2_paths, p2_water, p2_wall, p2_kind, p2_place, p2_facing, p2_age, p2_seeds, p2_season, p2_z, p2_spots), w_isKept, (t_bytes, t_length, t_sort, t_start, t_end, t_value), (h_numbers, h_bits, h_size), w_told))) (P := (p0_paths, p0_water, p0_wall, p0_kind, p0_place, p0_facing, p0_age, p0_seeds, p0_season, p0_z, p0_spots)) a1 (by decide) zP0) hP
  refine lv_iload_n hx hb dX6_seed_16 rfl (lv_at hl 0 rfl) ?_
  have hres : (p0_z, a1) = res := (Option.some.inj hf)
  have hP := w_eq (congrArg (fun z => cw g (pk3 (p0_paths, p0_water, p0_wall, p0_kind, p0_place, p0_facing, p0_age, p0_seeds, p0_season, z.2, p0_spots) (p1_paths, p1_water, p1_wall, p1_kind, p1_place, p1_facing, p1_age, p1_seeds, p1_season, p1_z, p1_spots) (p2_paths, p2_water, p2_wall, p2_kind, p2_place, p2_facing, p2_age, p2_seeds, p2_season, p2_z, p2_spots), w_isKept, (t_bytes, t_length, t_sort, t_start, t_end, t_value), (h_numbers, h_bits, h_size), w_told)) hres) hP
  exact W.iret (v := p0_z) hx hb hr (fun t ht hW => ⟨congrArg (fun z => Outcome.returned (some (Value.int z.1))) hres, trivial, by rw [ht]; exact hP, hS.F ht⟩) hS.2.2 dX6_seed_17
set_option maxHeartbeats 4000000 in
set_option maxRecDepth 100000 in
theorem ct_X5_append (l : Launch) (n : Nat) (g : GC) (S : TP → CS) (hL : zT S) (t_bytes : Nat → Int32) (t_length : Int32) (t_sort : Int32) (t_start : Int32) (t_end : Int32) (t_value : Int32) (a1 : Int32) (res : (Nat → Int32) × Int32) (hf : fX5_append n a1 t_bytes t_length = some res) : Met l yX5_append wsX5_append ({ frames := 0, cells := 0, slots := 0, locals := 0 }) (va_Pc [.ref (ga g 4), .int a1] (cI g (S (t_bytes, t_length, t_sort, t_start, t_end, t_value)))) (qW none True g.1 (cw g (S (res.1, res.2, t_sort, t_start, t_end, t_value))) (gA g)) 0 0 (gA g) := by
  refine Met.ofW (cc := cX5_append) (maxL := 2) (ret := none) (by decide) rfl ?_
  intro p e s m args below meth c s₁ B hml hv
  obtain ⟨rfl, hI⟩ := hv
  have hx := B.exec
  have hb := B.bytes
  have hr := B.returns
  have hts := atoms_spec (ws := wsX5_append) B.pre
  have hown : s.vm.findClass RX5 = some m.cls := findClass_of_methodNamed B.named
  have hlocks := B.notSynchronized
  have hP := hI.1
  have hB := hI.2
  have hK := hB.1
  have hNW := hB.2.1
  have hS : va_S (gA g) s.heap s.heap [] := va_S.rf
  have hw0 := hts (.fieldLink RX5 15 "SownPaths$Tape" "length" "I") (by decide +kernel)
  have hw1 := hts (.fieldLink RX5 9 "SownPaths$Tape" "bytes" "[I") (by decide +kernel)
  have iwX5 : ∀ w ∈ wsX50, w ∈ wsX5_append := fun w h => List.mem_cons_of_mem _ (List.mem_append_right _ h)
  have hl := lv_entry ([.ref (ga g 4), .int a1]) (n := 2) (Nat.le_of_ble_eq_true rfl)
  rw [lg_entry_eq]
  generalize (lg_sl ([.ref (ga g 4), .int a1]) ++ List.replicate (2 - (lg_sl ([.ref (ga g 4), .int a1])).length) Slot.unset).toArray = ls at hl ⊢
  have hl : lv_has ls 2 [(0, .ref (ga g 4)), (1, .int a1)] := hl
  unfold fX5_append at hf
  refine lv_aload_n hx hb dX5_append_0 rfl (lv_at hl 0 rfl) ?_
  refine va_get (D := g.1) (ci := 3) (v := .int t_length) (C := RX5) (T := TX5) (N := 6) hx hb hts iwX5 hown hK hP 4 (e_tp (zT.at hL (t_bytes, t_length, t_sort, t_start, t_end, t_value)) (T := (t_bytes, t_length, t_sort, t_start, t_end, t_value))) rfl 1 (by decide) hw0 (fun _ h9 => h9) rfl dX5_append_1 ?_
  refine lv_if_lt (tgt := 39) hx hb dX5_append_4 (by decide) (fun hc1 => ?_) (fun hc1 => ?_)
  · have hf := (if_pos hc1).symm.trans hf
    have hres : (t_bytes, t_length) = res := (Option.some.inj hf)
    have hP := w_eq (congrArg (fun z => cw g (S (z.1, z.2, t_sort, t_start, t_end, t_value))) hres) hP
    exact W.vret hx hb hr (fun t ht hW => ⟨rfl, trivial, by rw [ht]; exact hP, hS.F ht⟩) hS.2.2 dX5_append_39
  · have hf := (if_neg hc1).symm.trans hf
    refine lv_aload_n hx hb dX5_append_7 rfl (lv_at hl 0 rfl) ?_
    refine va_get (D := g.1) (ci := 3) (v := .int t_length) (C := RX5) (T := TX5) (N := 6) hx hb hts iwX5 hown hK hP 4 (e_tp (zT.at hL (t_bytes, t_length, t_sort, t_start, t_end, t_value)) (T := (t_bytes, t_length, t_sort, t_start, t_end, t_value))) rfl 1 (by decide) hw0 (fun _ h9 => h9) rfl dX5_append_8 ?_
    refine lv_aload_n hx hb dX5_append_11 rfl (lv_at hl 0 rfl) ?_
    refine va_get (D := g.1) (ci := 3) (v := .ref (ga g 7)) (C := RX5) (T := TX5) (N := 6) hx hb hts iwX5 hown hK hP 4 (e_tp (zT.at hL (t_bytes, t_length, t_sort, t_start, t_end, t_value)) (T := (t_bytes, t_length, t_sort, t_start, t_end, t_value))) rfl 0 (by decide) hw1 (fun _ h9 => h9) rfl dX5_append_12 ?_
    refine va_alen (v := (120 : Int32)) hx hb hK hP 7 0 (e_by (zT.at hL (t_bytes, t_length, t_sort, t_start, t_end, t_value)) (T := (t_bytes, t_length, t_sort, t_start, t_end, t_value))) rfl rfl dX5_append_15 ?_
    refine lv_icmp_ge (tgt := 39) hx hb dX5_append_16 (by decide) (fun hc2 => ?_) (fun hc2 => ?_)
    · have hf := (if_pos hc2).symm.trans hf
      have hres : (t_bytes, t_length) = res := (Option.some.inj hf)
      have hP := w_eq (congrArg (fun z => cw g (S (z.1, z.2, t_sort, t_start, t_end, t_value))) hres) hP
      exact W.vret hx hb hr (fun t ht hW => ⟨rfl, trivial, by rw [ht]; exact hP, hS.F ht⟩) hS.2.2 dX5_append_39
    · have hf := (if_neg hc2).symm.trans hf
      refine lv_aload_n hx hb dX5_append_19 rfl (lv_at hl 0 rfl) ?_
      refine va_get (D := g.1) (ci := 3) (v := .ref (ga g 7)) (C := RX5) (T := TX5) (N := 6) hx hb hts iwX5 hown hK hP 4 (e_tp (zT.at hL (t_bytes, t_length, t_sort, t_start, t_end, t_value)) (T := (t_bytes, t_length, t_sort, t_start, t_end, t_value))) rfl 0 (by decide) hw1 (fun _ h9 => h9) rfl dX5_append_20 ?_
      refine lv_aload_n hx hb dX5_append_23 rfl (lv_at hl 0 rfl) ?_
      refine va_get (D := g.1) (ci := 3) (v := .int t_length) (C := RX5) (T := TX5) (N := 6) hx hb hts iwX5 hown hK hP 4 (e_tp (zT.at hL (t_bytes, t_length, t_sort, t_start, t_end, t_value)) (T := (t_bytes, t_length, t_sort, t_start, t_end, t_value))) rfl 1 (by decide) hw0 (fun _ h9 => h9) rfl dX5_append_24 ?_
      refine lv_iload_n hx hb dX5_append_27 rfl (lv_at hl 1 rfl) ?_
      obtain ⟨hg3, hf⟩ := gd_some hf
      refine va_iast (f := t_bytes) hx hb hK hP (cD hB.2.2.1 _) hS 7 0 (e_by (zT.at hL (t_bytes, t_length, t_sort, t_start, t_end, t_value)) (T := (t_bytes, t_length, t_sort, t_start, t_end, t_value))) rfl hg3 dX5_append_28 (fun H locs hP _ hS => ?_)
      have hP : va_P g.1 vwCl (cw g (S ((upd t_bytes t_length.toNatClampNeg a1), t_length, t_sort, t_start, t_end, t_value))) H := w_eq (s_bytes (S := S) (T := (t_bytes, t_length, t_sort, t_start, t_end, t_value)) (upd t_bytes t_length.toNatClampNeg a1) hL) hP
      refine lv_aload_n hx hb dX5_append_29 rfl (lv_at hl 0 rfl) ?_
      refine lv_dup hx hb dX5_append_30 rfl ?_
      refine va_get (D := g.1) (ci := 3) (v := .int t_length) (C := RX5) (T := TX5) (N := 6) hx hb hts iwX5 hown hK hP 4 (e_tp (zT.at hL ((upd t_bytes t_length.toNatClampNeg a1), t_length, t_sort, t_start, t_end, t_value)) (T := ((upd t_bytes t_length.toNatClampNeg a1), t_length, t_sort, t_start, t_end, t_value))) rfl 1 (by decide) hw0 (fun _ h9 => h9) rfl dX5_append_31 ?_
      refine lv_iconst (v := (1 : Int32)) hx hb dX5_append_34 (by decide) ?_
      refine lv_iadd hx hb dX5_append_35 ?_
      refine va_put (D := g.1) (ci := 3) (v := .int (t_length + (1 : Int32))) (ty := .int) (C := RX5) (T := TX5) (N := 6) hx hb hts iwX5 tyX5 tyX5_ok nmX5 hown hK hP (cD hB.2.2.1 _) hS 4 (e_tp (zT.at hL ((upd t_bytes t_length.toNatClampNeg a1), t_length, t_sort, t_start, t_end, t_value)) (T := ((upd t_bytes t_length.toNatClampNeg a1), t_length, t_sort, t_start, t_end, t_value))) rfl 1 (by decide) hw0 (fun _ h9 => h9) rfl (tyX5_ok 1 (by decide)) rfl rfl (Nat.le_of_ble_eq_true rfl) dX5_append_36 (fun H locs hP _ hS => ?_)
      have hP : va_P g.1 vwCl (cw g (S ((upd t_bytes t_length.toNatClampNeg a1), (t_length + (1 : Int32)), t_sort, t_start, t_end, t_value))) H := w_eq (s_length (S := S) (T := ((upd t_bytes t_length.toNatClampNeg a1), t_length, t_sort, t_start, t_end, t_value)) (t_length + (1 : Int32)) hL) hP
      have hres : ((upd t_bytes t_length.toNatClampNeg a1), (t_length + (1 : Int32))) = res := (Option.some.inj hf)
      have hP := w_eq (congrArg (fun z => cw g (S (z.1, z.2, t_sort, t_start, t_end, t_value))) hres) hP
      exact W.vret hx hb hr (fun t ht hW => ⟨rfl, trivial, by rw [ht]; exact hP, hS.F ht⟩) hS.2.2 dX5_append_39
set_option maxHeartbeats 4000000 in
set_option maxRecDepth 100000 in
theorem ct_X6_feed (l : Launch) (n : Nat) (g : GC) (p0_paths : Nat → Int32) (p0_water : Int64) (p0_wall : Int64) (p0_kind : Nat → Int32) (p0_place : Nat → Int32) (p0_facing : Nat → Int32) (p0_age : Nat → Int32) (p0_seeds : Int32) (p0_season : Int32) (p0_z : Int32) (p0_spots : Nat → Int32) (p1_paths : Nat → Int32) (p1_water : Int64) (p1_wall : Int64) (p1_kind : Nat → Int32) (p1_place : Nat → Int32) (p1_facing : Nat → Int32) (p1_age : Nat → Int32) (p1_seeds : Int32) (p1_season : Int32) (p1_z : Int32) (p1_spots : Nat → Int32) (p2_paths : Nat → Int32) (p2_water : Int64) (p2_wall : Int64) (p2_kind : Nat → Int32) (p2_place : Nat → Int32) (p2_facing : Nat → Int32) (p2_age : Nat → Int32) (p2_seeds : Int32) (p2_season : Int32) (p2_z : Int32) (p2_spots : Nat → Int32) (t_bytes : Nat → Int32) (t_length : Int32) (t_sort : Int32) (t_start : Int32) (t_end : Int32) (t_value : Int32) (h_numbers : Nat → Nat → Int32) (h_bits : Nat → Int32) (h_size : Nat → Int32) (w_isKept : Int32) (w_told : Nat → Int32) (a1 : Int32) (a2 : Int32) (res : Int32 × (Nat → Int32) × Int32 × (Nat → Int32)) (hf : fX6_feed n a1 a2 t_bytes t_length w_told = some res) : Met l yX6_feed wsX6_feed ({ frames := 2, cells := 0, slots := 0, locals := 43 }) (va_Pc [.ref (ga g 0), .int a1, .int a2] (cI g (pk3 (p0_paths, p0_water, p0_wall, p0_kind, p0_place, p0_facing, p0_age, p0_seeds, p0_season, p0_z, p0_spots) (p1_paths, p1_water, p1_wall, p1_kind, p1_place, p1_facing, p1_age, p1_seeds, p1_season, p1_z, p1_spots) (p2_paths, p2_water, p2_wall, p2_kind, p2_place, p2_facing, p2_age, p2_seeds, p2_season, p2_z, p2_spots), w_isKept, (t_bytes, t_length, t_sort, t_start, t_end, t_value), (h_numbers, h_bits, h_size), w_told))) (qW (some (.int res.1)) True g.1 (cw g (pk3 (p0_paths, p0_water, p0_wall, p0_kind, p0_place, p0_facing, p0_age, p0_seeds, p0_season, p0_z, p0_spots) (p1_paths, p1_water, p1_wall, p1_kind, p1_place, p1_facing, p1_age, p1_seeds, p1_season, p1_z, p1_spots) (p2_paths, p2_water, p2_wall, p2_kind, p2_place, p2_facing, p2_age, p2_seeds, p2_season, p2_z, p2_spots), w_isKept, (res.2.1, res.2.2.1, t_sort, t_start, t_end, t_value), (h_numbers, h_bits, h_size), res.2.2.2)) (gA g)) 0 0 (gA g) := by
  refine Met.ofW (cc := cX6_feed) (maxL := 4) (ret := (some .int)) (by decide) rfl ?_
  intro p e s m args below meth c s₁ B hml hv
  obtain ⟨rfl, hI⟩ := hv
  have hx := B.exec
  have hb := B.bytes
  have hr := B.returns
  have hts := atoms_spec (ws := wsX6_feed) B.pre
  have hown : s.vm.findClass RX6 = some m.cls := findClass_of_methodNamed B.named
  have hlocks := B.notSynchronized
  have hP := hI.1
  have hB := hI.2
  have hK := hB.1
  have hNW := hB.2.1
  have hS : va_S (gA g) s.heap s.heap [] := va_S.rf
  have hw0 := hts (.fieldLink RX6 25 "SownPaths" "tape" "LSownPaths$Tape;") (by decide +kernel)
  have iwX5 : ∀ w ∈ wsX50, w ∈ wsX6_feed := fun w h => List.mem_cons_of_mem _ (List.mem_append_right _ h)
  have iwX6 : ∀ w ∈ wsX60, w ∈ wsX6_feed := fun w h => List.mem_cons_of_mem _ (List.mem_append_left _ (List.mem_append_right _ h))
  have hl := lv_entry ([.ref (ga g 0), .int a1, .int a2]) (n := 4) (Nat.le_of_ble_eq_true rfl)
  rw [lg_entry_eq]
  generalize (lg_sl ([.ref (ga g 0), .int a1, .int a2]) ++ List.replicate (4 - (lg_sl ([.ref (ga g 0), .int a1, .int a2])).length) Slot.unset).toArray = ls at hl ⊢
  have hl : lv_has ls 4 [(0, .ref (ga g 0)), (1, .int a1), (2, .int a2)] := hl
  unfold fX6_feed at hf
  refine lv_iload_n hx hb dX6_feed_0 rfl (lv_at hl 2 rfl) ?_
  refine lv_iconst (v := (1 : Int32)) hx hb dX6_feed_1 (by decide) ?_
  refine lv_iconst (v := (4 : Int32)) hx hb dX6_feed_2 (by decide) ?_
  obtain ⟨q1, hq1, hf⟩ := bd_some hf
  refine kr_S (st1 := [.int q1]) (va_runS (As := [.int a2, .int (1 : Int32), .int (4 : Int32)]) (rest := []) ⟨hx, hb, hml, hown, hts⟩ (ct_X6_within l n a2 (1 : Int32) (4 : Int32) q1 hq1) (va_cwS 3 hts gX6_feed_X6_within rfl rfl rfl hn_X6_within ⟨Nat.le_of_ble_eq_true rfl, Nat.le_of_ble_eq_true rfl⟩) ⟨bl_N, pr_N rfl hNW⟩ rfl rfl hl.1 rfl (lv_room (Nat.le_of_ble_eq_true rfl)) dX6_feed_3 ⟨Nat.le_refl _, Nat.le_refl _⟩) rfl (fun hn2 => ?_)
  refine lv_if_ne (tgt := 15) hx hb dX6_feed_6 (by decide) (fun hc3 => ?_) (fun hc3 => ?_)
  · have hf := (if_neg hc3).symm.trans hf
    refine lv_aload_n hx hb dX6_feed_15 rfl (lv_at hl 0 rfl) ?_
    refine va_get (D := g.1) (ci := 4) (v := .ref (ga g 4)) (C := RX6) (T := TX6) (N := 7) hx hb hts iwX6 hown hK hP 0 q_sp rfl 4 (by decide) hw0 (fun _ h9 => h9) rfl dX6_feed_16 ?_
    refine va_getN (D := g.1) (ci := 3) (v := .int t_length) (C := RX5) (T := TX5) (N := 6) hx hb hts iwX5 hown hK hP 4 (e_tp rfl (T := (t_bytes, t_length, t_sort, t_start, t_end, t_value))) rfl 1 (by decide) (nf_X6_245 hNW) (fun _ h9 => h9) rfl dX6_feed_19 ?_
    refine lv_iload_n hx hb dX6_feed_22 rfl (lv_at hl 2 rfl) ?_
    refine lv_iadd hx hb dX6_feed_23 ?_
    refine lv_bipush (v := (120 : Int32)) hx hb dX6_feed_24 (by decide) ?_
    refine lv_icmp_le (tgt := 35) hx hb dX6_feed_26 (by decide) (fun hc4 => ?_) (fun hc4 => ?_)
    · have hf := (if_pos hc4).symm.trans hf
      refine lv_iload_n hx hb dX6_feed_35 rfl (lv_at hl 2 rfl) ?_
      refine lv_iconst (v := (1 : Int32)) hx hb dX6_feed_36 (by decide) ?_
      refine lv_isub hx hb dX6_feed_37 ?_
      refine lv_istore_n (lv' := [(3, .int (a2 - (1 : Int32))), (0, .ref (ga g 0)), (1, .int a1), (2, .int a2)]) hx hb dX6_feed_38 rfl hl (by decide) rfl (fun ls hl => ?_)
      refine lp_run hf (fun s5 => ∀ (H : Heap) (locs : List Loc) (ls : Array Slot), va_P g.1 vwCl (cw g (pk3 (p0_paths, p0_water, p0_wall, p0_kind, p0_place, p0_facing, p0_age, p0_seeds, p0_season, p0_z, p0_spots) (p1_paths, p1_water, p1_wall, p1_kind, p1_place, p1_facing, p1_age, p1_seeds, p1_season, p1_z, p1_spots) (p2_paths, p2_water, p2_wall, p2_kind, p2_place, p2_facing, p2_age, p2_seeds, p2_season, p2_z, p2_spots), w_isKept, (s5.2.1, s5.2.2, t_sort, t_start, t_end, t_value), (h_numbers, h_bits, h_size), w_told)) H → va_S (gA g) s.heap H locs → lv_has ls 4 [(0, .ref (ga g 0)), (1, .int a1), (3, .int s5.1)] → W p l e (headSpec wsX6_feed ({ frames := 2, cells := 0, slots := 0, locals := 43 })).room s m ([.ref (ga g 0), .int a1, .int a2] : List Value).toArray below meth c H locs 0 0 (MQ below (qW (some (.int res.1)) True g.1 (cw g (pk3 (p0_paths, p0_water, p0_wall, p0_kind, p0_place, p0_facing, p0_age, p0_seeds, p0_season, p0_z, p0_spots) (p1_paths, p1_water, p1_wall, p1_kind, p1_place, p1_facing, p1_age, p1_seeds, p1_season, p1_z, p1_spots) (p2_paths, p2_water, p2_wall, p2_kind, p2_place, p2_facing, p2_age, p2_seeds, p2_season, p2_z, p2_spots), w_isKept, (res.2.1, res.2.2.1, t_sort, t_start, t_end, t_value), (h_numbers, h_bits, h_size), res.2.2.2)) (gA g)) ([.ref (ga g 0), .int a1, .int a2] : List Value).toArray s 0 0 (gA g)) (F0 m 39 ls [])) (fun v6 => ∀ (H : Heap) (locs : List Loc) (ls : Array Slot), va_P g.1 vwCl (cw g (pk3 (p0_paths, p0_water, p0_wall, p0_kind, p0_place, p0_facing, p0_age, p0_seeds, p0_season, p0_z, p0_spots) (p1_paths, p1_water, p1_wall, p1_kind, p1_place, p1_facing, p1_age, p1_seeds, p1_season, p1_z, p1_spots) (p2_paths, p2_water, p2_wall, p2_kind, p2_place, p2_facing, p2_age, p2_seeds, p2_season, p2_z, p2_spots), w_isKept, (v6.2.1, v6.2.2, t_sort, t_start, t_end, t_value), (h_numbers, h_bits, h_size), w_told)) H → va_S (gA g) s.heap H locs → lv_has ls 4 [(0, .ref (ga g 0))] → W p l e (headSpec wsX6_feed ({ frames := 2, cells := 0, slots := 0, locals := 43 })).room s m ([.ref (ga g 0), .int a1, .int a2] : List Value).toArray below meth c H locs 0 0 (MQ below (qW (some (.int res.1)) True g.1 (cw g (pk3 (p0_paths, p0_water, p0_wall, p0_kind, p0_place, p0_facing, p0_age, p0_seeds, p0_season, p0_z, p0_spots) (p1_paths, p1_water, p1_wall, p1_kind, p1_place, p1_facing, p1_age, p1_seeds, p1_season, p1_z, p1_spots) (p2_paths, p2_water, p2_wall, p2_kind, p2_place, p2_facing, p2_age, p2_seeds, p2_season, p2_z, p2_spots), w_isKept, (res.2.1, res.2.2.1, t_sort, t_start, t_end, t_value), (h_numbers, h_bits, h_size), res.2.2.2)) (gA g)) ([.ref (ga g 0), .int a1, .int a2] : List Value).toArray s 0 0 (gA g)) (F0 m 66 ls [])) ?_ ?_ _ _ _ hP hS (lv_sub hl [1, 2, 0] rfl)
      · intro v6 hf H locs ls hP hS hl
        refine lv_aload_n hx hb dX6_feed_66 rfl (lv_at hl 0 rfl) ?_
        refine va_get (D := g.1) (ci := 4) (v := .ref (ga g 4)) (C := RX6) (T := TX6) (N := 7) hx hb hts iwX6 hown hK hP 0 q_sp rfl 4 (by decide) hw0 (fun _ h9 => h9) rfl dX6_feed_67 ?_
        refine va_getN (D := g.1) (ci := 3) (v := .int v6.2.2) (C := RX5) (T := TX5) (N := 6) hx hb hts iwX5 hown hK hP 4 (e_tp rfl (T := (v6.2.1, v6.2.2, t_sort, t_start, t_end, t_value))) rfl 1 (by decide) (nf_X6_245 hNW) (fun _ h9 => h9) rfl dX6_feed_70 ?_
        have hres : (v6.2.2, v6.2.1, v6.2.2, w_told) = res := (Option.some.inj hf)
        have hP := w_eq (congrArg (fun z => cw g (pk3 (p0_paths, p0_water, p0_wall, p0_kind, p0_place, p0_facing, p0_age, p0_seeds, p0_season, p0_z, p0_spots) (p1_paths, p1_water, p1_wall, p1_kind, p1_place, p1_facing, p1_age, p1_seeds, p1_season, p1_z, p1_spots) (p2_paths, p2_water, p2_wall, p2_kind, p2_place, p2_facing, p2_age, p2_seeds, p2_season, p2_z, p2_spots), w_isKept, (z.2.1, z.2.2.1, t_sort, t_start, t_end, t_value), (h_numbers, h_bits, h_size), z.2.2.2)) hres) hP
        exact W.iret (v := v6.2.2) hx hb hr (fun t ht hW => ⟨congrArg (fun z => Outcome.returned (some (Value.int z.1))) hres, trivial, by rw [ht]; exact hP, hS.F ht⟩) hS.2.2 dX6_feed_73
      · intro s5 r1 hf hback1 hexit1 H locs ls hP hS hl
        refine lv_iload_n hx hb dX6_feed_39 rfl (lv_at hl 2 rfl) ?_
        refine lv_if_lt (tgt := 66) hx hb dX6_feed_40 (by decide) (fun hc7 => ?_) (fun hc7 => ?_)
        · have hf := (if_pos hc7).symm.trans hf
          exact hexit1 (s5.1, s5.2.1, s5.2.2) (Option.some.inj hf).symm H locs ls hP hS (lv_sub hl [0] rfl)
        · have hf := (if_neg hc7).symm.trans hf
          refine lv_aload_n hx hb dX6_feed_43 rfl (lv_at hl 0 rfl) ?_
          refine va_get (D := g.1) (ci := 4) (v := .ref (ga g 4)) (C := RX6) (T := TX6) (N := 7) hx hb hts iwX6 hown hK hP 0 q_sp rfl 4 (by decide) hw0 (fun _ h9 => h9) rfl dX6_feed_44 ?_
          refine lv_iload_n hx hb dX6_feed_47 rfl (lv_at hl 1 rfl) ?_
          refine lv_bipush (v := (8 : Int32)) hx hb dX6_feed_48 (by decide) ?_
          refine lv_iload_n hx hb dX6_feed_50 rfl (lv_at hl 2 rfl) ?_
          refine lv_imul hx hb dX6_feed_51 ?_
          refine lv_iushr (v := ((a1.toUInt32 >>> (((8 : Int32) * s5.1).toUInt32 &&& Int32.toUInt32 31)).toInt32)) hx hb dX6_feed_52 rfl ?_
          refine lv_sipush (v := (255 : Int32)) hx hb dX6_feed_53 (by decide) ?_
          refine lv_iand hx hb dX6_feed_56 ?_
          obtain ⟨q8, hq8, hf⟩ := bd_some hf
          refine kr_W (st1 := []) (va_runV (As := [.int (((a1.toUInt32 >>> (((8 : Int32) * s5.1).toUInt32 &&& Int32.toUInt32 31)).toInt32) &&& (255 : Int32))]) (rest := []) ⟨hx, hb, hml, hown, hts⟩ (ct_X5_append l n g (fun T => (pk3 (p0_paths, p0_water, p0_wall, p0_kind, p0_place, p0_facing, p0_age, p0_seeds, p0_season, p0_z, p0_spots) (p1_paths, p1_water, p1_wall, p1_kind, p1_place, p1_facing, p1_age, p1_seeds, p1_season, p1_z, p1_spots) (p2_paths, p2_water, p2_wall, p2_kind, p2_place, p2_facing, p2_age, p2_seeds, p2_season, p2_z, p2_spots), w_isKept, T, (h_numbers, h_bits, h_size), w_told)) zT0 s5.2.1 s5.2.2 t_sort t_start t_end t_value (((a1.toUInt32 >>> (((8 : Int32) * s5.1).toUInt32 &&& Int32.toUInt32 31)).toInt32) &&& (255 : Int32)) q8 hq8) (cwV 1 hts gX6_feed_X5_append rfl rfl rfl hd_X5_append ⟨Nat.le_of_ble_eq_true rfl, Nat.le_of_ble_eq_true rfl⟩) ⟨bl_C, va_recv hK hP (ci := 3) (q0 := 4) rfl (e_tp rfl (T := (s5.2.1, s5.2.2, t_sort, t_start, t_end, t_value))), pr_C rfl hB hP hS⟩ rfl rfl hl.1 rfl (lv_room (Nat.le_of_ble_eq_true rfl)) dX6_feed_57 ⟨Nat.le_refl _, Nat.le_refl _⟩) hS rfl (fun hn9 H locs hP hS => ?_)
          have hP : va_P g.1 vwCl (cw g (pk3 (p0_paths, p0_water, p0_wall, p0_kind, p0_place, p0_facing, p0_age, p0_seeds, p0_season, p0_z, p0_spots) (p1_paths, p1_water, p1_wall, p1_kind, p1_place, p1_facing, p1_age, p1_seeds, p1_season, p1_z, p1_spots) (p2_paths, p2_water, p2_wall, p2_kind, p2_place, p2_facing, p2_age, p2_seeds, p2_season, p2_z, p2_spots), w_isKept, (q8.1, q8.2, t_sort, t_start, t_end, t_value), (h_numbers, h_bits, h_size), w_told)) H := hP
          refine lv_iinc (v := (s5.1 + (-1 : Int32))) (lv' := [(3, .int (s5.1 + (-1 : Int32))), (0, .ref (ga g 0)), (1, .int a1)]) hx hb dX6_feed_60 hl (k := 2) rfl (congrArg (fun y => s5.1 + y) (by decide : Int32.ofInt (-1) = (-1 : Int32))) (by decide) rfl (fun ls hl => ?_)
          refine lv_goto (tgt := 39) hx hb dX6_feed_63 (by decide) ?_
          exact hback1 _ (Option.some.inj hf).symm H locs ls hP hS (lv_sub hl [1, 2, 0] rfl)
    · have hf := (if_neg hc4).symm.trans hf
      refine lv_aload_n hx hb dX6_feed_29 rfl (lv_at hl 0 rfl) ?_
      refine lv_iconst (v := (1 : Int32)) hx hb dX6_feed_30 (by decide) ?_
      obtain ⟨q10, hq10, hf⟩ := bd_some hf
      refine kr_W (st1 := [.int q10.1]) (va_runV (As := [.int (1 : Int32)]) (rest := []) ⟨hx, hb, hml, hown, hts⟩ (ct_X6_finding l n g p0_paths p0_water p0_wall p0_kind p0_place p0_facing p0_age p0_seeds p0_season p0_z p0_spots p1_paths p1_water p1_wall p1_kind p1_place p1_facing p1_age p1_seeds p1_season p1_z p1_spots p2_paths p2_water p2_wall p2_kind p2_place p2_facing p2_age p2_seeds p2_season p2_z p2_spots t_bytes t_length t_sort t_start t_end t_value h_numbers h_bits h_size w_isKept w_told (1 : Int32) q10 hq10) (cwV 1 hts gX6_feed_X6_finding rfl rfl rfl hd_X6_finding ⟨Nat.le_of_ble_eq_true rfl, Nat.le_of_ble_eq_true rfl⟩) ⟨bl_C, va_recv hK hP (ci := 4) (q0 := 0) rfl q_sp, pr_C rfl hB hP hS⟩ rfl rfl hl.1 rfl (lv_room (Nat.le_of_ble_eq_true rfl)) dX6_feed_31 ⟨Nat.le_refl _, Nat.le_refl _⟩) hS rfl (fun hn11 H locs hP hS => ?_)
      have hP : va_P g.1 vwCl (cw g (pk3 (p0_paths, p0_water, p0_wall, p0_kind, p0_place, p0_facing, p0_age, p0_seeds, p0_season, p0_z, p0_spots) (p1_paths, p1_water, p1_wall, p1_kind, p1_place, p1_facing, p1_age, p1_seeds, p1_season, p1_z, p1_spots) (p2_paths, p2_water, p2_wall, p2_kind, p2_place, p2_facing, p2_age, p2_seeds, p2_season, p2_z, p2_spots), w_isKept, (t_bytes, t_length, t_sort, t_start, t_end, t_value), (h_numbers, h_bits, h_size), q10.2)) H := hP
      have hres : (q10.1, t_bytes, t_length, q10.2) = res := (Option.some.inj hf)
      have hP := w_eq (congrArg (fun z => cw g (pk3 (p0_paths, p0_water, p0_wall, p0_kind, p0_place, p0_facing, p0_age, p0_seeds, p0_season, p0_z, p0_spots) (p1_paths, p1_water, p1_wall, p1_kind, p1_place, p1_facing, p1_age, p1_seeds, p1_season, p1_z, p1_spots) (p2_paths, p2_water, p2_wall, p2_kind, p2_place, p2_facing, p2_age, p2_seeds, p2_season, p2_z, p2_spots), w_isKept, (z.2.1, z.2.2.1, t_sort, t_start, t_end, t_value), (h_numbers, h_bits, h_size), z.2.2.2)) hres) hP
      exact W.iret (v := q10.1) hx hb hr (fun t ht hW => ⟨congrArg (fun z => Outcome.returned (some (Value.int z.1))) hres, trivial, by rw [ht]; exact hP, hS.F ht⟩) hS.2.2 dX6_feed_34
  · have hf := (if_pos hc3).symm.trans hf
    refine lv_aload_n hx hb dX6_feed_9 rfl (lv_at hl 0 rfl) ?_
    refine lv_iconst (v := (0 : Int32)) hx hb dX6_feed_10 (by decide) ?_
    obtain ⟨q12, hq12, hf⟩ := bd_some hf
    refine kr_W (st1 := [.int q12.1]) (va_runV (As := [.int (0 : Int32)]) (rest := []) ⟨hx, hb, hml, hown, hts⟩ (ct_X6_finding l n g p0_paths p0_water p0_wall p0_kind p0_place p0_facing p0_age p0_seeds p0_season p0_z p0_spots p1_paths p1_water p1_wall p1_kind p1_place p1_facing p1_age p1_seeds p1_season p1_z p1_spots p2_paths p2_water p2_wall p2_kind p2_place p2_facing p2_age p2_seeds p2_season p2_z p2_spots t_bytes t_length t_sort t_start t_end t_value h_numbers h_bits h_size w_isKept w_told (0 : Int32) q12 hq12) (cwV 1 hts gX6_feed_X6_finding rfl rfl rfl hd_X6_finding ⟨Nat.le_of_ble_eq_true rfl, Nat.le_of_ble_eq_true rfl⟩) ⟨bl_C, va_recv hK hP (ci := 4) (q0 := 0) rfl q_sp, pr_C rfl hB hP hS⟩ rfl rfl hl.1 rfl (lv_room (Nat.le_of_ble_eq_true rfl)) dX6_feed_11 ⟨Nat.le_refl _, Nat.le_refl _⟩) hS rfl (fun hn13 H locs hP hS => ?_)
    have hP : va_P g.1 vwCl (cw g (pk3 (p0_paths, p0_water, p0_wall, p0_kind, p0_place, p0_facing, p0_age, p0_seeds, p0_season, p0_z, p0_spots) (p1_paths, p1_water, p1_wall, p1_kind, p1_place, p1_facing, p1_age, p1_seeds, p1_season, p1_z, p1_spots) (p2_paths, p2_water, p2_wall, p2_kind, p2_place, p2_facing, p2_age, p2_seeds, p2_season, p2_z, p2_spots), w_isKept, (t_bytes, t_length, t_sort, t_start, t_end, t_value), (h_numbers, h_bits, h_size), q12.2)) H := hP
    have hres : (q12.1, t_bytes, t_length, q12.2) = res := (Option.some.inj hf)
    have hP := w_eq (congrArg (fun z => cw g (pk3 (p0_paths, p0_water, p0_wall, p0_kind, p0_place, p0_facing, p0_age, p0_seeds, p0_season, p0_z, p0_spots) (p1_paths, p1_water, p1_wall, p1_kind, p1_place, p1_facing, p1_age, p1_seeds, p1_season, p1_z, p1_spots) (p2_paths, p2_water, p2_wall, p2_kind, p2_place, p2_facing, p2_age, p2_seeds, p2_season, p2_z, p2_spots), w_isKept, (z.2.1, z.2.2.1, t_sort, t_start, t_end, t_value), (h_numbers, h_bits, h_size), z.2.2.2)) hres) hP
    exact W.iret (v := q12.1) hx hb hr (fun t ht hW => ⟨congrArg (fun z => Outcome.returned (some (Value.int z.1))) hres, trivial, by rw [ht]; exact hP, hS.F ht⟩) hS.2.2 dX6_feed_14
set_option maxHeartbeats 4000000 in
set_option maxRecDepth 100000 in
theorem ct_X5_clear (l : Launch) (n : Nat) (g : GC) (S : TP → CS) (hL : zT S) (t_bytes : Nat → Int32) (t_length : Int32) (t_sort : Int32) (t_start : Int32) (t_end : Int32) (t_value : Int32) (res : Int32 × Int32) (hf : fX5_clear n t_length = some res) : Met l yX5_clear wsX5_clear ({ frames := 0, cells := 0, slots := 0, locals := 0 }) (va_Pc [.ref (ga g 4)] (cI g (S (t_bytes, t_length, t_sort, t_start, t_end, t_value)))) (qW (some (.int res.1)) True g.1 (cw g (S (t_bytes, res.2, t_sort, t_start, t_end, t_value))) (gA g)) 0 0 (gA g) := by
  refine Met.ofW (cc := cX5_clear) (maxL := 2) (ret := (some .int)) (by decide) rfl ?_
  intro p e s m args below meth c s₁ B hml hv
  obtain ⟨rfl, hI⟩ := hv
  have hx := B.exec
  have hb := B.bytes
  have hr := B.returns
  have hts := atoms_spec (ws := wsX5_clear) B.pre
  have hown : s.vm.findClass RX5 = some m.cls := findClass_of_methodNamed B.named
  have hlocks := B.notSynchronized
  have hP := hI.1
  have hB := hI.2
  have hK := hB.1
  have hNW := hB.2.1
  have hS : va_S (gA g) s.heap s.heap [] := va_S.rf
  have hw0 := hts (.fieldLink RX5 15 "SownPaths$Tape" "length" "I") (by decide +kernel)
  have iwX5 : ∀ w ∈ wsX50, w ∈ wsX5_clear := fun w h => List.mem_cons_of_mem _ (List.mem_append_right _ h)
  have hl := lv_entry ([.ref (ga g 4)]) (n := 2) (Nat.le_of_ble_eq_true rfl)
  rw [lg_entry_eq]
  generalize (lg_sl ([.ref (ga g 4)]) ++ List.replicate (2 - (lg_sl ([.ref (ga g 4)])).length) Slot.unset).toArray = ls at hl ⊢
  have hl : lv_has ls 2 [(0, .ref (ga g 4))] := hl
  unfold fX5_clear at hf
  refine lv_aload_n hx hb dX5_clear_0 rfl (lv_at hl 0 rfl) ?_
  refine va_get (D := g.1) (ci := 3) (v := .int t_length) (C := RX5) (T := TX5) (N := 6) hx hb hts iwX5 hown hK hP 4 (e_tp (zT.at hL (t_bytes, t_length, t_sort, t_start, t_end, t_value)) (T := (t_bytes, t_length, t_sort, t_start, t_end, t_value))) rfl 1 (by decide) hw0 (fun _ h9 => h9) rfl dX5_clear_1 ?_
  refine lv_istore_n (lv' := [(1, .int t_length), (0, .ref (ga g 4))]) hx hb dX5_clear_4 rfl hl (by decide) rfl (fun ls hl => ?_)
  refine lv_aload_n hx hb dX5_clear_5 rfl (lv_at hl 1 rfl) ?_
  refine lv_iconst (v := (0 : Int32)) hx hb dX5_clear_6 (by decide) ?_
  refine va_put (D := g.1) (ci := 3) (v := .int (0 : Int32)) (ty := .int) (C := RX5) (T := TX5) (N := 6) hx hb hts iwX5 tyX5 tyX5_ok nmX5 hown hK hP (cD hB.2.2.1 _) hS 4 (e_tp (zT.at hL (t_bytes, t_length, t_sort, t_start, t_end, t_value)) (T := (t_bytes, t_length, t_sort, t_start, t_end, t_value))) rfl 1 (by decide) hw0 (fun _ h9 => h9) rfl (tyX5_ok 1 (by decide)) rfl rfl (Nat.le_of_ble_eq_true rfl) dX5_clear_7 (fun H locs hP _ hS => ?_)
  have hP : va_P g.1 vwCl (cw g (S (t_bytes, (0 : Int32), t_sort, t_start, t_end, t_value))) H := w_eq (s_length (S := S) (T := (t_bytes, t_length, t_sort, t_start, t_end, t_value)) (0 : Int32) hL) hP
  refine lv_iload_n hx hb dX5_clear_10 rfl (lv_at hl 0 rfl) ?_
  have hres : (t_length, (0 : Int32)) = res := (Option.some.inj hf)
  have hP := w_eq (congrArg (fun z => cw g (S (t_bytes, z.2, t_sort, t_start, t_end, t_value))) hres) hP
  exact W.iret (v := t_length) hx hb hr (fun t ht hW => ⟨congrArg (fun z => Outcome.returned (some (Value.int z.1))) hres, trivial, by rw [ht]; exact hP, hS.F ht⟩) hS.2.2 dX5_clear_11
set_option maxHeartbeats 4000000 in
set_option maxRecDepth 100000 in
theorem ct_X6_wipe (l : Launch) (n : Nat) (g : GC) (p0_paths : Nat → Int32) (p0_water : Int64) (p0_wall : Int64) (p0_kind : Nat → Int32) (p0_place : Nat → Int32) (p0_facing : Nat → Int32) (p0_age : Nat → Int32) (p0_seeds : Int32) (p0_season : Int32) (p0_z : Int32) (p0_spots : Nat → Int32) (p1_paths : Nat → Int32) (p1_water : Int64) (p1_wall : Int64) (p1_kind : Nat → Int32) (p1_place : Nat → Int32) (p1_facing : Nat → Int32) (p1_age : Nat → Int32) (p1_seeds : Int32) (p1_season : Int32) (p1_z : Int32) (p1_spots : Nat → Int32) (p2_paths : Nat → Int32) (p2_water : Int64) (p2_wall : Int64) (p2_kind : Nat → Int32) (p2_place : Nat → Int32) (p2_facing : Nat → Int32) (p2_age : Nat → Int32) (p2_seeds : Int32) (p2_season : Int32) (p2_z : Int32) (p2_spots : Nat → Int32) (t_bytes : Nat → Int32) (t_length : Int32) (t_sort : Int32) (t_start : Int32) (t_end : Int32) (t_value : Int32) (h_numbers : Nat → Nat → Int32) (h_bits : Nat → Int32) (h_size : Nat → Int32) (w_isKept : Int32) (w_told : Nat → Int32) (res : Int32 × Int32) (hf : fX6_wipe n t_length = some res) : Met l yX6_wipe wsX6_wipe ({ frames := 1, cells := 0, slots := 0, locals := 21 }) (va_Pc [.ref (ga g 0)] (cI g (pk3 (p0_paths, p0_water, p0_wall, p0_kind, p0_place, p0_facing, p0_age, p0_seeds, p0_season, p0_z, p0_spots) (p1_paths, p1_water, p1_wall, p1_kind, p1_place, p1_facing, p1_age, p1_seeds, p1_season, p1_z, p1_spots) (p2_paths, p2_water, p2_wall, p2_kind, p2_place, p2_facing, p2_age, p2_seeds, p2_season, p2_z, p2_spots), w_isKept, (t_bytes, t_length, t_sort, t_start, t_end, t_value), (h_numbers, h_bits, h_size), w_told))) (qW (some (.int res.1)) True g.1 (cw g (pk3 (p0_paths, p0_water, p0_wall, p0_kind, p0_place, p0_facing, p0_age, p0_seeds, p0_season, p0_z, p0_spots) (p1_paths, p1_water, p1_wall, p1_kind, p1_place, p1_facing, p1_age, p1_seeds, p1_season, p1_z, p1_spots) (p2_paths, p2_water, p2_wall, p2_kind, p2_place, p2_facing, p2_age, p2_seeds, p2_season, p2_z, p2_spots), w_isKept, (t_bytes, res.2, t_sort, t_start, t_end, t_value), (h_numbers, h_bits, h_size), w_told)) (gA g)) 0 0 (gA g) := by
  refine Met.ofW (cc := cX6_wipe) (maxL := 1) (ret := (some .int)) (by decide) rfl ?_
  intro p e s m args below meth c s₁ B hml hv
  obtain ⟨rfl, hI⟩ := hv
  have hx := B.exec
  have hb := B.bytes
  have hr := B.returns
  have hts := atoms_spec (ws := wsX6_wipe) B.pre
  have hown : s.vm.findClass RX6 = some m.cls := findClass_of_methodNamed B.named
  have hlocks := B.notSynchronized
  have hP := hI.1
  have hB := hI.2
  have hK := hB.1
  have hNW := hB.2.1
  have hS : va_S (gA g) s.heap s.heap [] := va_S.rf
  have hw0 := hts (.fieldLink RX6 25 "SownPaths" "tape" "LSownPaths$Tape;") (by decide +kernel)
  have iwX6 : ∀ w ∈ wsX60, w ∈ wsX6_wipe := fun w h => List.mem_cons_of_mem _ (List.mem_append_left _ (List.mem_append_right _ h))
  have hl := lv_entry ([.ref (ga g 0)]) (n := 1) (Nat.le_of_ble_eq_true rfl)
  rw [lg_entry_eq]
  generalize (lg_sl ([.ref (ga g 0)]) ++ List.replicate (1 - (lg_sl ([.ref (ga g 0)])).length) Slot.unset).toArray = ls at hl ⊢
  have hl : lv_has ls 1 [(0, .ref (ga g 0))] := hl
  unfold fX6_wipe at hf
  refine lv_aload_n hx hb dX6_wipe_0 rfl (lv_at hl 0 rfl) ?_
  refine va_get (D := g.1) (ci := 4) (v := .ref (ga g 4)) (C := RX6) (T := TX6) (N := 7) hx hb hts iwX6 hown hK hP 0 q_sp rfl 4 (by decide) hw0 (fun _ h9 => h9) rfl dX6_wipe_1 ?_
  obtain ⟨q1, hq1, hf⟩ := bd_some hf
  refine kr_W (st1 := [.int q1.1]) (va_runV (As := []) (rest := []) ⟨hx, hb, hml, hown, hts⟩ (ct_X5_clear l n g (fun T => (pk3 (p0_paths, p0_water, p0_wall, p0_kind, p0_place, p0_facing, p0_age, p0_seeds, p0_season, p0_z, p0_spots) (p1_paths, p1_water, p1_wall, p1_kind, p1_place, p1_facing, p1_age, p1_seeds, p1_season, p1_z, p1_spots) (p2_paths, p2_water, p2_wall, p2_kind, p2_place, p2_facing, p2_age, p2_seeds, p2_season, p2_z, p2_spots), w_isKept, T, (h_numbers, h_bits, h_size), w_told)) zT0 t_bytes t_length t_sort t_start t_end t_value q1 hq1) (cwV 0 hts gX6_wipe_X5_clear rfl rfl rfl hd_X5_clear ⟨Nat.le_of_ble_eq_true rfl, Nat.le_of_ble_eq_true rfl⟩) ⟨bl_C, va_recv hK hP (ci := 3) (q0 := 4) rfl (e_tp rfl (T := (t_bytes, t_length, t_sort, t_start, t_end, t_value))), pr_C rfl hB hP hS⟩ rfl rfl hl.1 rfl (lv_room (Nat.le_of_ble_eq_true rfl)) dX6_wipe_4 ⟨Nat.le_refl _, Nat.le_refl _⟩) hS rfl (fun hn2 H locs hP hS => ?_)
  have hP : va_P g.1 vwCl (cw g (pk3 (p0_paths, p0_water, p0_wall, p0_kind, p0_place, p0_facing, p0_age, p0_seeds, p0_season, p0_z, p0_spots) (p1_paths, p1_water, p1_wall, p1_kind, p1_place, p1_facing, p1_age, p1_seeds, p1_season, p1_z, p1_spots) (p2_paths, p2_water, p2_wall, p2_kind, p2_place, p2_facing, p2_age, p2_seeds, p2_season, p2_z, p2_spots), w_isKept, (t_bytes, q1.2, t_sort, t_start, t_end, t_value), (h_numbers, h_bits, h_size), w_told)) H := hP
  have hres : (q1.1, q1.2) = res := (Option.some.inj hf)
  have hP := w_eq (congrArg (fun z => cw g (pk3 (p0_paths, p0_water, p0_wall, p0_kind, p0_place, p0_facing, p0_age, p0_seeds, p0_season, p0_z, p0_spots) (p1_paths, p1_water, p1_wall, p1_kind, p1_place, p1_facing, p1_age, p1_seeds, p1_season, p1_z, p1_spots) (p2_paths, p2_water, p2_wall, p2_kind, p2_place, p2_facing, p2_age, p2_seeds, p2_season, p2_z, p2_spots), w_isKept, (t_bytes, z.2, t_sort, t_start, t_end, t_value), (h_numbers, h_bits, h_size), w_told)) hres) hP
  exact W.iret (v := q1.1) hx hb hr (fun t ht hW => ⟨congrArg (fun z => Outcome.returned (some (Value.int z.1))) hres, trivial, by rw [ht]; exact hP, hS.F ht⟩) hS.2.2 dX6_wipe_7
set_option maxHeartbeats 4000000 in
set_option maxRecDepth 100000 in
theorem ct_X5_isLetter (l : Launch) (n : Nat) (a0 : Int32) (res : Int32) (hf : fX5_isLetter n a0 = some res) : Met l yX5_isLetter wsX5_isLetter ({ frames := 0, cells := 0, slots := 0, locals := 0 }) (va_Pc [.int a0] NW) (qS (some (.int res)) (narrow .boolean (.int res) = .int res)) 0 0 (fun _ => False) := by
  refine Met.ofW (cc := cX5_isLetter) (maxL := 1) (ret := (some .boolean)) (by decide) rfl ?_
  intro p e s m args below meth c s₁ B hml hv
  obtain ⟨rfl, hI⟩ := hv
  have hx := B.exec
  have hb := B.bytes
  have hr := B.returns
  have hts := atoms_spec (ws := wsX5_isLetter) B.pre
  have hown : s.vm.findClass RX5 = some m.cls := findClass_of_methodNamed B.named
  have hlocks := B.notSynchronized
  have hNW : NW s := hI
  have hl := lv_entry ([.int a0]) (n := 1) (Nat.le_of_ble_eq_true rfl)
  rw [lg_entry_eq]
  generalize (lg_sl ([.int a0]) ++ List.replicate (1 - (lg_sl ([.int a0])).length) Slot.unset).toArray = ls at hl ⊢
  have hl : lv_has ls 1 [(0, .int a0)] := hl
  unfold fX5_isLetter at hf
  refine lv_iload_n hx hb dX5_isLetter_0 rfl (lv_at hl 0 rfl) ?_
  refine lv_bipush (v := (97 : Int32)) hx hb dX5_isLetter_1 (by decide) ?_
  refine lv_icmp_lt (tgt := 16) hx hb dX5_isLetter_3 (by decide) (fun hc1 => ?_) (fun hc1 => ?_)
  · have hf := (if_pos hc1).symm.trans hf
    refine lv_iconst (v := (0 : Int32)) hx hb dX5_isLetter_16 (by decide) ?_
    have hres : (0 : Int32) = res := (Option.some.inj hf)
    have hnr : narrow .boolean (.int (0 : Int32)) = .int (0 : Int32) := rfl
    exact W.zret (v := (0 : Int32)) hx hb hr hnr (fun t ht hW => ⟨congrArg (fun z => Outcome.returned (some (Value.int z))) hres, Eq.mp (congrArg (fun z => narrow .boolean (.int z) = .int z) hres) hnr, ht⟩) t_nil dX5_isLetter_17
  · have hf := (if_neg hc1).symm.trans hf
    refine lv_iload_n hx hb dX5_isLetter_6 rfl (lv_at hl 0 rfl) ?_
    refine lv_bipush (v := (122 : Int32)) hx hb dX5_isLetter_7 (by decide) ?_
    refine lv_icmp_gt (tgt := 16) hx hb dX5_isLetter_9 (by decide) (fun hc2 => ?_) (fun hc2 => ?_)
    · have hf := (if_pos hc2).symm.trans hf
      refine lv_iconst (v := (0 : Int32)) hx hb dX5_isLetter_16 (by decide) ?_
      have hres : (0 : Int32) = res := (Option.some.inj hf)
      have hnr : narrow .boolean (.int (0 : Int32)) = .int (0 : Int32) := rfl
      exact W.zret (v := (0 : Int32)) hx hb hr hnr (fun t ht hW => ⟨congrArg (fun z => Outcome.returned (some (Value.int z))) hres, Eq.mp (congrArg (fun z => narrow .boolean (.int z) = .int z) hres) hnr, ht⟩) t_nil dX5_isLetter_17
    · have hf := (if_neg hc2).symm.trans hf
      refine lv_iconst (v := (1 : Int32)) hx hb dX5_isLetter_12 (by decide) ?_
      refine lv_goto (tgt := 17) hx hb dX5_isLetter_13 (by decide) ?_
      have hres : (1 : Int32) = res := (Option.some.inj hf)
      have hnr : narrow .boolean (.int (1 : Int32)) = .int (1 : Int32) := rfl
      exact W.zret (v := (1 : Int32)) hx hb hr hnr (fun t ht hW => ⟨congrArg (fun z => Outcome.returned (some (Value.int z))) hres, Eq.mp (congrArg (fun z => narrow .boolean (.int z) = .int z) hres) hnr, ht⟩) t_nil dX5_isLetter_17
set_option maxHeartbeats 4000000 in
set_option maxRecDepth 100000 in
theorem ct_X5_isDigit (l : Launch) (n : Nat) (a0 : Int32) (res : Int32) (hf : fX5_isDigit n a0 = some res) : Met l yX5_isDigit wsX5_isDigit ({ frames := 0, cells := 0, slots := 0, locals := 0 }) (va_Pc [.int a0] NW) (qS (some (.int res)) (narrow .boolean (.int res) = .int res)) 0 0 (fun _ => False) := by
  refine Met.ofW (cc := cX5_isDigit) (maxL := 1) (ret := (some .boolean)) (by decide) rfl ?_
  intro p e s m args below meth c s₁ B hml hv
  obtain ⟨rfl, hI⟩ := hv
  have hx := B.exec
  have hb := B.bytes
  have hr := B.returns
  have hts := atoms_spec (ws := wsX5_isDigit) B.pre
  have hown : s.vm.findClass RX5 = some m.cls := findClass_of_methodNamed B.named
  have hlocks := B.notSynchronized
  have hNW : NW s := hI
  have hl := lv_entry ([.int a0]) (n := 1) (Nat.le_of_ble_eq_true rfl)
  rw [lg_entry_eq]
  generalize (lg_sl ([.int a0]) ++ List.replicate (1 - (lg_sl ([.int a0])).length) Slot.unset).toArray = ls at hl ⊢
  have hl : lv_has ls 1 [(0, .int a0)] := hl
  unfold fX5_isDigit at hf
  refine lv_iload_n hx hb dX5_isDigit_0 rfl (lv_at hl 0 rfl) ?_
  refine lv_bipush (v := (48 : Int32)) hx hb dX5_isDigit_1 (by decide) ?_
  refine lv_icmp_lt (tgt := 16) hx hb dX5_isDigit_3 (by decide) (fun hc1 => ?_) (fun hc1 => ?_)
  · have hf := (if_pos hc1).symm.trans hf
    refine lv_iconst (v := (0 : Int32)) hx hb dX5_isDigit_16 (by decide) ?_
    have hres : (0 : Int32) = res := (Option.some.inj hf)
    have hnr : narrow .boolean (.int (0 : Int32)) = .int (0 : Int32) := rfl
    exact W.zret (v := (0 : Int32)) hx hb hr hnr (fun t ht hW => ⟨congrArg (fun z => Outcome.returned (some (Value.int z))) hres, Eq.mp (congrArg (fun z => narrow .boolean (.int z) = .int z) hres) hnr, ht⟩) t_nil dX5_isDigit_17
  · have hf := (if_neg hc1).symm.trans hf
    refine lv_iload_n hx hb dX5_isDigit_6 rfl (lv_at hl 0 rfl) ?_
    refine lv_bipush (v := (57 : Int32)) hx hb dX5_isDigit_7 (by decide) ?_
    refine lv_icmp_gt (tgt := 16) hx hb dX5_isDigit_9 (by decide) (fun hc2 => ?_) (fun hc2 => ?_)
    · have hf := (if_pos hc2).symm.trans hf
      refine lv_iconst (v := (0 : Int32)) hx hb dX5_isDigit_16 (by decide) ?_
      have hres : (0 : Int32) = res := (Option.some.inj hf)
      have hnr : narrow .boolean (.int (0 : Int32)) = .int (0 : Int32) := rfl
      exact W.zret (v := (0 : Int32)) hx hb hr hnr (fun t ht hW => ⟨congrArg (fun z => Outcome.returned (some (Value.int z))) hres, Eq.mp (congrArg (fun z => narrow .boolean (.int z) = .int z) hres) hnr, ht⟩) t_nil dX5_isDigit_17
    · have hf := (if_neg hc2).symm.trans hf
      refine lv_iconst (v := (1 : Int32)) hx hb dX5_isDigit_12 (by decide) ?_
      refine lv_goto (tgt := 17) hx hb dX5_isDigit_13 (by decide) ?_
      have hres : (1 : Int32) = res := (Option.some.inj hf)
      have hnr : narrow .boolean (.int (1 : Int32)) = .int (1 : Int32) := rfl
      exact W.zret (v := (1 : Int32)) hx hb hr hnr (fun t ht hW => ⟨congrArg (fun z => Outcome.returned (some (Value.int z))) hres, Eq.mp (congrArg (fun z => narrow .boolean (.int z) = .int z) hres) hnr, ht⟩) t_nil dX5_isDigit_17
set_option maxHeartbeats 4000000 in
set_option maxRecDepth 100000 in
theorem ct_X5_readNumber (l : Launch) (n : Nat) (g : GC) (S : TP → CS) (hL : zT S) (t_bytes : Nat → Int32) (t_length : Int32) (t_sort : Int32) (t_start : Int32) (t_end : Int32) (t_value : Int32) (res : Int32 × Int32) (hf : fX5_readNumber n t_bytes t_length t_end t_value = some res) : Met l yX5_readNumber wsX5_readNumber ({ frames := 1, cells := 0, slots := 0, locals := 24 }) (va_Pc [.ref (ga g 4)] (cI g (S (t_bytes, t_length, t_sort, t_start, t_end, t_value)))) (qW none True g.1 (cw g (S (t_bytes, t_length, t_sort, t_start, res.1, res.2))) (gA g)) 0 0 (gA g) := by
  refine Met.ofW (cc := cX5_readNumber) (maxL := 1) (ret := none) (by decide) rfl ?_
  intro p e s m args below meth c s₁ B hml hv
  obtain ⟨rfl, hI⟩ := hv
  have hx := B.exec
  have hb := B.bytes
  have hr := B.returns
  have hts := atoms_spec (ws := wsX5_readNumber) B.pre
  have hown : s.vm.findClass RX5 = some m.cls := findClass_of_methodNamed B.named
  have hlocks := B.notSynchronized
  have hP := hI.1
  have hB := hI.2
  have hK := hB.1
  have hNW := hB.2.1
  have hS : va_S (gA g) s.heap s.heap [] := va_S.rf
  have hw0 := hts (.fieldLink RX5 32 "SownPaths$Tape" "value" "I") (by decide +kernel)
  have hw1 := hts (.fieldLink RX5 19 "SownPaths$Tape" "end" "I") (by decide +kernel)
  have hw2 := hts (.fieldLink RX5 15 "SownPaths$Tape" "length" "I") (by decide +kernel)
  have hw3 := hts (.fieldLink RX5 9 "SownPaths$Tape" "bytes" "[I") (by decide +kernel)
  have hw4 := hts (.initialized RX6) (by decide +kernel)
  have hw5 := hts (.static yX6_at) (by decide +kernel)
  have hw6 := hts (.methodLink RX5 48 Lib.Math.min.name) (by decide +kernel)
  have hw7 := hts (.static Lib.Math.min.name) (by decide +kernel)
  have hw8 := hts (.initialized "java/lang/Math") (by decide +kernel)
  have hw9 := hts (.code Lib.Math.min.name Lib.Math.min.code 2 (some .int)) (by decide +kernel)
  have iwX5 : ∀ w ∈ wsX50, w ∈ wsX5_readNumber := fun w h => List.mem_cons_of_mem _ (List.mem_append_right _ h)
  have hl := lv_entry ([.ref (ga g 4)]) (n := 1) (Nat.le_of_ble_eq_true rfl)
  rw [lg_entry_eq]
  generalize (lg_sl ([.ref (ga g 4)]) ++ List.replicate (1 - (lg_sl ([.ref (ga g 4)])).length) Slot.unset).toArray = ls at hl ⊢
  have hl : lv_has ls 1 [(0, .ref (ga g 4))] := hl
  unfold fX5_readNumber at hf
  refine lv_aload_n hx hb dX5_readNumber_0 rfl (lv_at hl 0 rfl) ?_
  refine lv_iconst (v := (0 : Int32)) hx hb dX5_readNumber_1 (by decide) ?_
  refine va_put (D := g.1) (ci := 3) (v := .int (0 : Int32)) (ty := .int) (C := RX5) (T := TX5) (N := 6) hx hb hts iwX5 tyX5 tyX5_ok nmX5 hown hK hP (cD hB.2.2.1 _) hS 4 (e_tp (zT.at hL (t_bytes, t_length, t_sort, t_start, t_end, t_value)) (T := (t_bytes, t_length, t_sort, t_start, t_end, t_value))) rfl 5 (by decide) hw0 (fun _ h9 => h9) rfl (tyX5_ok 5 (by decide)) rfl rfl (Nat.le_of_ble_eq_true rfl) dX5_readNumber_2 (fun H locs hP _ hS => ?_)
  have hP : va_P g.1 vwCl (cw g (S (t_bytes, t_length, t_sort, t_start, t_end, (0 : Int32)))) H := w_eq (s_value (S := S) (T := (t_bytes, t_length, t_sort, t_start, t_end, t_value)) (0 : Int32) hL) hP
  refine lp_run hf (fun s1 => ∀ (H : Heap) (locs : List Loc) (ls : Array Slot), va_P g.1 vwCl (cw g (S (t_bytes, t_length, t_sort, t_start, s1.1, s1.2))) H → va_S (gA g) s.heap H locs → lv_has ls 1 [(0, .ref (ga g 4))] → W p l e (headSpec wsX5_readNumber ({ frames := 1, cells := 0, slots := 0, locals := 24 })).room s m ([.ref (ga g 4)] : List Value).toArray below meth c H locs 0 0 (MQ below (qW none True g.1 (cw g (S (t_bytes, t_length, t_sort, t_start, res.1, res.2))) (gA g)) ([.ref (ga g 4)] : List Value).toArray s 0 0 (gA g)) (F0 m 5 ls [])) (fun v2 => ∀ (H : Heap) (locs : List Loc) (ls : Array Slot), va_P g.1 vwCl (cw g (S (t_bytes, t_length, t_sort, t_start, v2.1, v2.2))) H → va_S (gA g) s.heap H locs → lv_has ls 1 [] → W p l e (headSpec wsX5_readNumber ({ frames := 1, cells := 0, slots := 0, locals := 24 })).room s m ([.ref (ga g 4)] : List Value).toArray below meth c H locs 0 0 (MQ below (qW none True g.1 (cw g (S (t_bytes, t_length, t_sort, t_start, res.1, res.2))) (gA g)) ([.ref (ga g 4)] : List Value).toArray s 0 0 (gA g)) (F0 m 78 ls [])) ?_ ?_ _ _ _ hP hS (lv_sub hl [0] rfl)
  · intro v2 hf H locs ls hP hS hl
    have hres : (v2.1, v2.2) = res := (Option.some.inj hf)
    have hP := w_eq (congrArg (fun z => cw g (S (t_bytes, t_length, t_sort, t_start, z.1, z.2))) hres) hP
    exact W.vret hx hb hr (fun t ht hW => ⟨rfl, trivial, by rw [ht]; exact hP, hS.F ht⟩) hS.2.2 dX5_readNumber_78
  · intro s1 r1 hf hback1 hexit1 H locs ls hP hS hl
    refine lv_aload_n hx hb dX5_readNumber_5 rfl (lv_at hl 0 rfl) ?_
    refine va_get (D := g.1) (ci := 3) (v := .int s1.1) (C := RX5) (T := TX5) (N := 6) hx hb hts iwX5 hown hK hP 4 (e_tp (zT.at hL (t_bytes, t_length, t_sort, t_start, s1.1, s1.2)) (T := (t_bytes, t_length, t_sort, t_start, s1.1, s1.2))) rfl 4 (by decide) hw1 (fun _ h9 => h9) rfl dX5_readNumber_6 ?_
    refine lv_aload_n hx hb dX5_readNumber_9 rfl (lv_at hl 0 rfl) ?_
    refine va_get (D := g.1) (ci := 3) (v := .int t_length) (C := RX5) (T := TX5) (N := 6) hx hb hts iwX5 hown hK hP 4 (e_tp (zT.at hL (t_bytes, t_length, t_sort, t_start, s1.1, s1.2)) (T := (t_bytes, t_length, t_sort, t_start, s1.1, s1.2))) rfl 1 (by decide) hw2 (fun _ h9 => h9) rfl dX5_readNumber_10 ?_
    refine lv_icmp_ge (tgt := 78) hx hb dX5_readNumber_13 (by decide) (fun hc3 => ?_) (fun hc3 => ?_)
    · have hf := (if_pos hc3).symm.trans hf
      exact hexit1 (s1.1, s1.2) (Option.some.inj hf).symm H locs ls hP hS (lv_sub hl [] rfl)
    · have hf := (if_neg hc3).symm.trans hf
      refine lv_aload_n hx hb dX5_readNumber_16 rfl (lv_at hl 0 rfl) ?_
      refine va_get (D := g.1) (ci := 3) (v := .ref (ga g 7)) (C := RX5) (T := TX5) (N := 6) hx hb hts iwX5 hown hK hP 4 (e_tp (zT.at hL (t_bytes, t_length, t_sort, t_start, s1.1, s1.2)) (T := (t_bytes, t_length, t_sort, t_start, s1.1, s1.2))) rfl 0 (by decide) hw3 (fun _ h9 => h9) rfl dX5_readNumber_17 ?_
      refine lv_aload_n hx hb dX5_readNumber_20 rfl (lv_at hl 0 rfl) ?_
      refine va_get (D := g.1) (ci := 3) (v := .int s1.1) (C := RX5) (T := TX5) (N := 6) hx hb hts iwX5 hown hK hP 4 (e_tp (zT.at hL (t_bytes, t_length, t_sort, t_start, s1.1, s1.2)) (T := (t_bytes, t_length, t_sort, t_start, s1.1, s1.2))) rfl 4 (by decide) hw1 (fun _ h9 => h9) rfl dX5_readNumber_21 ?_
      obtain ⟨q4, hq4, hf⟩ := bd_some hf
      refine kr_S (st1 := [.int q4]) (va_runSN (As := [.ref (ga g 7), .int s1.1]) (rest := []) ⟨hx, hb, hml, hown, hts⟩ (ct_X6_at l n g (S (t_bytes, t_length, t_sort, t_start, s1.1, s1.2)) 7 120 t_bytes (e_by (zT.at hL (t_bytes, t_length, t_sort, t_start, s1.1, s1.2)) (T := (t_bytes, t_length, t_sort, t_start, s1.1, s1.2))) s1.1 q4 hq4) (⟨va_cnB 2 hts gX5_readNumber_X6_at_n28 rfl rfl rfl (ml_X5_28 hNW) hw4 hn_X6_at ⟨Nat.le_of_ble_eq_true rfl, Nat.le_of_ble_eq_true rfl⟩, hw5, trivial⟩) ⟨bl_C, pr_C rfl hB hP hS⟩ rfl rfl hl.1 rfl (lv_room (Nat.le_of_ble_eq_true rfl)) dX5_readNumber_24 ⟨Nat.le_refl _, Nat.le_refl _⟩) rfl (fun hn5 => ?_)
      obtain ⟨q6, hq6, hf⟩ := bd_some hf
      refine kr_S (st1 := [.int q6]) (va_runS (As := [.int q4]) (rest := []) ⟨hx, hb, hml, hown, hts⟩ (ct_X5_isDigit l n q4 q6 hq6) (va_cwS 1 hts gX5_readNumber_X5_isDigit rfl rfl rfl hn_X5_isDigit ⟨Nat.le_of_ble_eq_true rfl, Nat.le_of_ble_eq_true rfl⟩) ⟨bl_N, pr_N rfl hNW⟩ rfl rfl hl.1 rfl (lv_room (Nat.le_of_ble_eq_true rfl)) dX5_readNumber_27 ⟨Nat.le_refl _, Nat.le_refl _⟩) rfl (fun hn7 => ?_)
      refine lv_if_eq (tgt := 78) hx hb dX5_readNumber_30 (by decide) (fun hc8 => ?_) (fun hc8 => ?_)
      · have hf := (if_pos hc8).symm.trans hf
        exact hexit1 (s1.1, s1.2) (Option.some.inj hf).symm H locs ls hP hS (lv_sub hl [] rfl)
      · have hf := (if_neg hc8).symm.trans hf
        refine lv_aload_n hx hb dX5_readNumber_33 rfl (lv_at hl 0 rfl) ?_
        refine lv_aload_n hx hb dX5_readNumber_34 rfl (lv_at hl 0 rfl) ?_
        refine va_get (D := g.1) (ci := 3) (v := .int s1.2) (C := RX5) (T := TX5) (N := 6) hx hb hts iwX5 hown hK hP 4 (e_tp (zT.at hL (t_bytes, t_length, t_sort, t_start, s1.1, s1.2)) (T := (t_bytes, t_length, t_sort, t_start, s1.1, s1.2))) rfl 5 (by decide) hw0 (fun _ h9 => h9) rfl dX5_readNumber_35 ?_
        refine lv_bipush (v := (10 : Int32)) hx hb dX5_readNumber_38 (by decide) ?_
        refine lv_imul hx hb dX5_readNumber_40 ?_
        refine lv_aload_n hx hb dX5_readNumber_41 rfl (lv_at hl 0 rfl) ?_
        refine va_get (D := g.1) (ci := 3) (v := .ref (ga g 7)) (C := RX5) (T := TX5) (N := 6) hx hb hts iwX5 hown hK hP 4 (e_tp (zT.at hL (t_bytes, t_length, t_sort, t_start, s1.1, s1.2)) (T := (t_bytes, t_length, t_sort, t_start, s1.1, s1.2))) rfl 0 (by decide) hw3 (fun _ h9 => h9) rfl dX5_readNumber_42 ?_
        refine lv_aload_n hx hb dX5_readNumber_45 rfl (lv_at hl 0 rfl) ?_
        refine va_get (D := g.1) (ci := 3) (v := .int s1.1) (C := RX5) (T := TX5) (N := 6) hx hb hts iwX5 hown hK hP 4 (e_tp (zT.at hL (t_bytes, t_length, t_sort, t_start, s1.1, s1.2)) (T := (t_bytes, t_length, t_sort, t_start, s1.1, s1.2))) rfl 4 (by decide) hw1 (fun _ h9 => h9) rfl dX5_readNumber_46 ?_
        obtain ⟨q9, hq9, hf⟩ := bd_some hf
        refine kr_S (st1 := [.int q9, .int (s1.2 * (10 : Int32)), .ref (ga g 4)]) (va_runSN (As := [.ref (ga g 7), .int s1.1]) (rest := [.int (s1.2 * (10 : Int32)), .ref (ga g 4)]) ⟨hx, hb, hml, hown, hts⟩ (ct_X6_at l n g (S (t_bytes, t_length, t_sort, t_start, s1.1, s1.2)) 7 120 t_bytes (e_by (zT.at hL (t_bytes, t_length, t_sort, t_start, s1.1, s1.2)) (T := (t_bytes, t_length, t_sort, t_start, s1.1, s1.2))) s1.1 q9 hq9) (⟨va_cnB 2 hts gX5_readNumber_X6_at_n28 rfl rfl rfl (ml_X5_28 hNW) hw4 hn_X6_at ⟨Nat.le_of_ble_eq_true rfl, Nat.le_of_ble_eq_true rfl⟩, hw5, trivial⟩) ⟨bl_C, pr_C rfl hB hP hS⟩ rfl rfl hl.1 rfl (lv_room (Nat.le_of_ble_eq_true rfl)) dX5_readNumber_49 ⟨Nat.le_refl _, Nat.le_refl _⟩) rfl (fun hn10 => ?_)
        refine lv_iadd hx hb dX5_readNumber_52 ?_
        refine lv_bipush (v := (48 : Int32)) hx hb dX5_readNumber_53 (by decide) ?_
        refine lv_isub hx hb dX5_readNumber_55 ?_
        refine lv_sipush (v := (1000 : Int32)) hx hb dX5_readNumber_56 (by decide) ?_
        refine va_mmin hx hb (hml.trans hl.1.symm) hown hw6 hw7 hw8 hw9 (Nat.le_of_ble_eq_true rfl) (Nat.le_of_ble_eq_true rfl) (Nat.le_of_ble_eq_true rfl) (Nat.le_of_ble_eq_true rfl) dX5_readNumber_59 ?_
        refine va_put (D := g.1) (ci := 3) (v := .int (if (1000 : Int32) < (((s1.2 * (10 : Int32)) + q9) - (48 : Int32)) then (1000 : Int32) else (((s1.2 * (10 : Int32)) + q9) - (48 : Int32)))) (ty := .int) (C := RX5) (T := TX5) (N := 6) hx hb hts iwX5 tyX5 tyX5_ok nmX5 hown hK hP (cD hB.2.2.1 _) hS 4 (e_tp (zT.at hL (t_bytes, t_length, t_sort, t_start, s1.1, s1.2)) (T := (t_bytes, t_length, t_sort, t_start, s1.1, s1.2))) rfl 5 (by decide) hw0 (fun _ h9 => h9) rfl (tyX5_ok 5 (by decide)) rfl rfl (Nat.le_of_ble_eq_true rfl) dX5_readNumber_62 (fun H locs hP _ hS => ?_)
        have hP : va_P g.1 vwCl (cw g (S (t_bytes, t_length, t_sort, t_start, s1.1, (if (1000 : Int32) < (((s1.2 * (10 : Int32)) + q9) - (48 : Int32)) then (1000 : Int32) else (((s1.2 * (10 : Int32)) + q9) - (48 : Int32)))))) H := w_eq (s_value (S := S) (T := (t_bytes, t_length, t_sort, t_start, s1.1, s1.2)) (if (1000 : Int32) < (((s1.2 * (10 : Int32)) + q9) - (48 : Int32)) then (1000 : Int32) else (((s1.2 * (10 : Int32)) + q9) - (48 : Int32))) hL) hP
        refine lv_aload_n hx hb dX5_readNumber_65 rfl (lv_at hl 0 rfl) ?_
        refine lv_dup hx hb dX5_readNumber_66 rfl ?_
        refine va_get (D := g.1) (ci := 3) (v := .int s1.1) (C := RX5) (T := TX5) (N := 6) hx hb hts iwX5 hown hK hP 4 (e_tp (zT.at hL (t_bytes, t_length, t_sort, t_start, s1.1, (if (1000 : Int32) < (((s1.2 * (10 : Int32)) + q9) - (48 : Int32)) then (1000 : Int32) else (((s1.2 * (10 : Int32)) + q9) - (48 : Int32))))) (T := (t_bytes, t_length, t_sort, t_start, s1.1, (if (1000 : Int32) < (((s1.2 * (10 : Int32)) + q9) - (48 : Int32)) then (1000 : Int32) else (((s1.2 * (10 : Int32)) + q9) - (48 : Int32)))))) rfl 4 (by decide) hw1 (fun _ h9 => h9) rfl dX5_readNumber_67 ?_
        refine lv_iconst (v := (1 : Int32)) hx hb dX5_readNumber_70 (by decide) ?_
        refine lv_iadd hx hb dX5_readNumber_71 ?_
        refine va_put (D := g.1) (ci := 3) (v := .int (s1.1 + (1 : Int32))) (ty := .int) (C := RX5) (T := TX5) (N := 6) hx hb hts iwX5 tyX5 tyX5_ok nmX5 hown hK hP (cD hB.2.2.1 _) hS 4 (e_tp (zT.at hL (t_bytes, t_length, t_sort, t_start, s1.1, (if (1000 : Int32) < (((s1.2 * (10 : Int32)) + q9) - (48 : Int32)) then (1000 : Int32) else (((s1.2 * (10 : Int32)) + q9) - (48 : Int32))))) (T := (t_bytes, t_length, t_sort, t_start, s1.1, (if (1000 : Int32) < (((s1.2 * (10 : Int32)) + q9) - (48 : Int32)) then (1000 : Int32) else (((s1.2 * (10 : Int32)) + q9) - (48 : Int32)))))) rfl 4 (by decide) hw1 (fun _ h9 => h9) rfl (tyX5_ok 4 (by decide)) rfl rfl (Nat.le_of_ble_eq_true rfl) dX5_readNumber_72 (fun H locs hP _ hS => ?_)
        have hP : va_P g.1 vwCl (cw g (S (t_bytes, t_length, t_sort, t_start, (s1.1 + (1 : Int32)), (if (1000 : Int32) < (((s1.2 * (10 : Int32)) + q9) - (48 : Int32)) then (1000 : Int32) else (((s1.2 * (10 : Int32)) + q9) - (48 : Int32)))))) H := w_eq (s_end (S := S) (T := (t_bytes, t_length, t_sort, t_start, s1.1, (if (1000 : Int32) < (((s1.2 * (10 : Int32)) + q9) - (48 : Int32)) then (1000 : Int32) else (((s1.2 * (10 : Int32)) + q9) - (48 : Int32))))) (s1.1 + (1 : Int32)) hL) hP
        refine lv_goto (tgt := 5) hx hb dX5_readNumber_75 (by decide) ?_
        exact hback1 _ (Option.some.inj hf).symm H locs ls hP hS (lv_sub hl [0] rfl)
