/-! CONTRACTS, by program -/
set_option maxHeartbeats 4000000 in
set_option maxRecDepth 100000 in
theorem ct_X6_isKind (l : Launch) (n : Nat) (a0 : Int32) (res : Int32) (hf : fX6_isKind n a0 = some res) : Met l yX6_isKind wsX6_isKind ({ frames := 1, cells := 0, slots := 0, locals := 22 }) (va_Pc [.int a0] NW) (qS (some (.int res)) (narrow .boolean (.int res) = .int res)) 0 0 (fun _ => False) := by
  refine Met.ofW (cc := cX6_isKind) (maxL := 1) (ret := (some .boolean)) (by decide) rfl ?_
  intro p e s m args below meth c s₁ B hml hv
  obtain ⟨rfl, hI⟩ := hv
  have hx := B.exec
  have hb := B.bytes
  have hr := B.returns
  have hts := atoms_spec (ws := wsX6_isKind) B.pre
  have hown : s.vm.findClass RX6 = some m.cls := findClass_of_methodNamed B.named
  have hlocks := B.notSynchronized
  have hNW : NW s := hI
  have hl := lv_entry ([.int a0]) (n := 1) (Nat.le_of_ble_eq_true rfl)
  rw [lg_entry_eq]
  generalize (lg_sl ([.int a0]) ++ List.replicate (1 - (lg_sl ([.int a0])).length) Slot.unset).toArray = ls at hl ⊢
  have hl : lv_has ls 1 [(0, .int a0)] := hl
  unfold fX6_isKind at hf
  refine lv_iload_n hx hb dX6_isKind_0 rfl (lv_at hl 0 rfl) ?_
  refine lv_iconst (v := (0 : Int32)) hx hb dX6_isKind_1 (by decide) ?_
  refine lv_bipush (v := (6 : Int32)) hx hb dX6_isKind_2 (by decide) ?_
  obtain ⟨q1, hq1, hf⟩ := bd_some hf
  refine kr_S (st1 := [.int q1]) (va_runS (As := [.int a0, .int (0 : Int32), .int (6 : Int32)]) (rest := []) ⟨hx, hb, hml, hown, hts⟩ (ct_X6_within l n a0 (0 : Int32) (6 : Int32) q1 hq1) (va_cwS 3 hts gX6_isKind_X6_within rfl rfl rfl hn_X6_within ⟨Nat.le_of_ble_eq_true rfl, Nat.le_of_ble_eq_true rfl⟩) ⟨bl_N, pr_N rfl hNW⟩ rfl rfl hl.1 rfl (lv_room (Nat.le_of_ble_eq_true rfl)) dX6_isKind_4 ⟨Nat.le_refl _, Nat.le_refl _⟩) rfl (fun hn2 => ?_)
  have hres : q1 = res := (Option.some.inj hf)
  have hnr : narrow .boolean (.int q1) = .int q1 := hn2
  exact W.zret (v := q1) hx hb hr hnr (fun t ht hW => ⟨congrArg (fun z => Outcome.returned (some (Value.int z))) hres, Eq.mp (congrArg (fun z => narrow .boolean (.int z) = .int z) hres) hnr, ht⟩) t_nil dX6_isKind_7
set_option maxHeartbeats 4000000 in
set_option maxRecDepth 100000 in
theorem ct_X6_isHeading (l : Launch) (n : Nat) (a0 : Int32) (res : Int32) (hf : fX6_isHeading n a0 = some res) : Met l yX6_isHeading wsX6_isHeading ({ frames := 1, cells := 0, slots := 0, locals := 22 }) (va_Pc [.int a0] NW) (qS (some (.int res)) (narrow .boolean (.int res) = .int res)) 0 0 (fun _ => False) := by
  refine Met.ofW (cc := cX6_isHeading) (maxL := 1) (ret := (some .boolean)) (by decide) rfl ?_
  intro p e s m args below meth c s₁ B hml hv
  obtain ⟨rfl, hI⟩ := hv
  have hx := B.exec
  have hb := B.bytes
  have hr := B.returns
  have hts := atoms_spec (ws := wsX6_isHeading) B.pre
  have hown : s.vm.findClass RX6 = some m.cls := findClass_of_methodNamed B.named
  have hlocks := B.notSynchronized
  have hNW : NW s := hI
  have hl := lv_entry ([.int a0]) (n := 1) (Nat.le_of_ble_eq_true rfl)
  rw [lg_entry_eq]
  generalize (lg_sl ([.int a0]) ++ List.replicate (1 - (lg_sl ([.int a0])).length) Slot.unset).toArray = ls at hl ⊢
  have hl : lv_has ls 1 [(0, .int a0)] := hl
  unfold fX6_isHeading at hf
  refine lv_iload_n hx hb dX6_isHeading_0 rfl (lv_at hl 0 rfl) ?_
  refine lv_iconst (v := (0 : Int32)) hx hb dX6_isHeading_1 (by decide) ?_
  refine lv_iconst (v := (3 : Int32)) hx hb dX6_isHeading_2 (by decide) ?_
  obtain ⟨q1, hq1, hf⟩ := bd_some hf
  refine kr_S (st1 := [.int q1]) (va_runS (As := [.int a0, .int (0 : Int32), .int (3 : Int32)]) (rest := []) ⟨hx, hb, hml, hown, hts⟩ (ct_X6_within l n a0 (0 : Int32) (3 : Int32) q1 hq1) (va_cwS 3 hts gX6_isHeading_X6_within rfl rfl rfl hn_X6_within ⟨Nat.le_of_ble_eq_true rfl, Nat.le_of_ble_eq_true rfl⟩) ⟨bl_N, pr_N rfl hNW⟩ rfl rfl hl.1 rfl (lv_room (Nat.le_of_ble_eq_true rfl)) dX6_isHeading_3 ⟨Nat.le_refl _, Nat.le_refl _⟩) rfl (fun hn2 => ?_)
  have hres : q1 = res := (Option.some.inj hf)
  have hnr : narrow .boolean (.int q1) = .int q1 := hn2
  exact W.zret (v := q1) hx hb hr hnr (fun t ht hW => ⟨congrArg (fun z => Outcome.returned (some (Value.int z))) hres, Eq.mp (congrArg (fun z => narrow .boolean (.int z) = .int z) hres) hnr, ht⟩) t_nil dX6_isHeading_6
set_option maxHeartbeats 4000000 in
set_option maxRecDepth 100000 in
theorem ct_X2_isFull (l : Launch) (n : Nat) (g : GC) (σ : CS) (k : Nat) (hk : k < 3) (f_paths : Nat → Int32) (f_water : Int64) (f_wall : Int64) (f_kind : Nat → Int32) (f_place : Nat → Int32) (f_facing : Nat → Int32) (f_age : Nat → Int32) (f_seeds : Int32) (f_season : Int32) (f_z : Int32) (f_spots : Nat → Int32) (he : σ.1 k = (f_paths, f_water, f_wall, f_kind, f_place, f_facing, f_age, f_seeds, f_season, f_z, f_spots)) (res : Int32) (hf : fX2_isFull n f_seeds = some res) : Met l yX2_isFull wsX2_isFull ({ frames := 0, cells := 0, slots := 0, locals := 0 }) (va_Pc [.ref (ga g (1 + k))] (cI g σ)) (qS (some (.int res)) (narrow .boolean (.int res) = .int res)) 0 0 (fun _ => False) := by
  refine Met.ofW (cc := cX2_isFull) (maxL := 1) (ret := (some .boolean)) (by decide) rfl ?_
  intro p e s m args below meth c s₁ B hml hv
  obtain ⟨rfl, hI⟩ := hv
  have hx := B.exec
  have hb := B.bytes
  have hr := B.returns
  have hts := atoms_spec (ws := wsX2_isFull) B.pre
  have hown : s.vm.findClass RX2 = some m.cls := findClass_of_methodNamed B.named
  have hlocks := B.notSynchronized
  have hP := hI.1
  have hB := hI.2
  have hK := hB.1
  have hNW := hB.2.1
  have hS : va_S (gA g) s.heap s.heap [] := va_S.rf
  have hw0 := hts (.fieldLink RX2 48 "SownPaths$Park" "seeds" "I") (by decide +kernel)
  have iwX2 : ∀ w ∈ wsX20, w ∈ wsX2_isFull := fun w h => List.mem_cons_of_mem _ (List.mem_append_right _ h)
  have hl := lv_entry ([.ref (ga g (1 + k))]) (n := 1) (Nat.le_of_ble_eq_true rfl)
  rw [lg_entry_eq]
  generalize (lg_sl ([.ref (ga g (1 + k))]) ++ List.replicate (1 - (lg_sl ([.ref (ga g (1 + k))])).length) Slot.unset).toArray = ls at hl ⊢
  have hl : lv_has ls 1 [(0, .ref (ga g (1 + k)))] := hl
  unfold fX2_isFull at hf
  refine lv_aload_n hx hb dX2_isFull_0 rfl (lv_at hl 0 rfl) ?_
  refine va_get (D := g.1) (ci := 0) (v := .int f_seeds) (C := RX2) (T := TX2) (N := 8) hx hb hts iwX2 hown hK hP (1 + k) (e_pk hk he (Q := (f_paths, f_water, f_wall, f_kind, f_place, f_facing, f_age, f_seeds, f_season, f_z, f_spots))) rfl 4 (by decide) hw0 (fun _ h9 => h9) rfl dX2_isFull_1 ?_
  refine lv_bipush (v := (8 : Int32)) hx hb dX2_isFull_4 (by decide) ?_
  refine lv_icmp_lt (tgt := 13) hx hb dX2_isFull_6 (by decide) (fun hc1 => ?_) (fun hc1 => ?_)
  · have hf := (if_pos hc1).symm.trans hf
    refine lv_iconst (v := (0 : Int32)) hx hb dX2_isFull_13 (by decide) ?_
    have hres : (0 : Int32) = res := (Option.some.inj hf)
    have hnr : narrow .boolean (.int (0 : Int32)) = .int (0 : Int32) := rfl
    exact W.zret (v := (0 : Int32)) hx hb hr hnr (fun t ht hW => ⟨congrArg (fun z => Outcome.returned (some (Value.int z))) hres, Eq.mp (congrArg (fun z => narrow .boolean (.int z) = .int z) hres) hnr, ht⟩) t_nil dX2_isFull_14
  · have hf := (if_neg hc1).symm.trans hf
    refine lv_iconst (v := (1 : Int32)) hx hb dX2_isFull_9 (by decide) ?_
    refine lv_goto (tgt := 14) hx hb dX2_isFull_10 (by decide) ?_
    have hres : (1 : Int32) = res := (Option.some.inj hf)
    have hnr : narrow .boolean (.int (1 : Int32)) = .int (1 : Int32) := rfl
    exact W.zret (v := (1 : Int32)) hx hb hr hnr (fun t ht hW => ⟨congrArg (fun z => Outcome.returned (some (Value.int z))) hres, Eq.mp (congrArg (fun z => narrow .boolean (.int z) = .int z) hres) hnr, ht⟩) t_nil dX2_isFull_14
set_option maxHeartbeats 4000000 in
set_option maxRecDepth 100000 in
theorem ct_X2_plant (l : Launch) (n : Nat) (g : GC) (S : PK → CS) (k : Nat) (hk : k < 3) (hL : zP k S) (f_paths : Nat → Int32) (f_water : Int64) (f_wall : Int64) (f_kind : Nat → Int32) (f_place : Nat → Int32) (f_facing : Nat → Int32) (f_age : Nat → Int32) (f_seeds : Int32) (f_season : Int32) (f_z : Int32) (f_spots : Nat → Int32) (a1 : Int32) (a2 : Int32) (a3 : Int32) (a4 : Int32) (res : Int32 × (Nat → Int32) × (Nat → Int32) × (Nat → Int32) × (Nat → Int32) × Int32) (hf : fX2_plant n a1 a2 a3 a4 f_kind f_place f_facing f_age f_seeds = some res) : Met l yX2_plant wsX2_plant ({ frames := 1, cells := 0, slots := 0, locals := 21 }) (va_Pc [.ref (ga g (1 + k)), .int a1, .int a2, .int a3, .int a4] (cI g (S (f_paths, f_water, f_wall, f_kind, f_place, f_facing, f_age, f_seeds, f_season, f_z, f_spots)))) (qW (some (.int res.1)) True g.1 (cw g (S (f_paths, f_water, f_wall, res.2.1, res.2.2.1, res.2.2.2.1, res.2.2.2.2.1, res.2.2.2.2.2, f_season, f_z, f_spots))) (gA g)) 0 0 (gA g) := by
  refine Met.ofW (cc := cX2_plant) (maxL := 6) (ret := (some .int)) (by decide) rfl ?_
  intro p e s m args below meth c s₁ B hml hv
  obtain ⟨rfl, hI⟩ := hv
  have hx := B.exec
  have hb := B.bytes
  have hr := B.returns
  have hts := atoms_spec (ws := wsX2_plant) B.pre
  have hown : s.vm.findClass RX2 = some m.cls := findClass_of_methodNamed B.named
  have hlocks := B.notSynchronized
  have hP := hI.1
  have hB := hI.2
  have hK := hB.1
  have hNW := hB.2.1
  have hS : va_S (gA g) s.heap s.heap [] := va_S.rf
  have hw0 := hts (.fieldLink RX2 48 "SownPaths$Park" "seeds" "I") (by decide +kernel)
  have iwX2 : ∀ w ∈ wsX20, w ∈ wsX2_plant := fun w h => List.mem_cons_of_mem _ (List.mem_append_left _ (List.mem_append_right _ h))
  have iwX3 : ∀ w ∈ wsX30, w ∈ wsX2_plant := fun w h => List.mem_cons_of_mem _ (List.mem_append_right _ h)
  have hl := lv_entry ([.ref (ga g (1 + k)), .int a1, .int a2, .int a3, .int a4]) (n := 6) (Nat.le_of_ble_eq_true rfl)
  rw [lg_entry_eq]
  generalize (lg_sl ([.ref (ga g (1 + k)), .int a1, .int a2, .int a3, .int a4]) ++ List.replicate (6 - (lg_sl ([.ref (ga g (1 + k)), .int a1, .int a2, .int a3, .int a4])).length) Slot.unset).toArray = ls at hl ⊢
  have hl : lv_has ls 6 [(0, .ref (ga g (1 + k))), (1, .int a1), (2, .int a2), (3, .int a3), (4, .int a4)] := hl
  unfold fX2_plant at hf
  refine lv_aload_n hx hb dX2_plant_0 rfl (lv_at hl 0 rfl) ?_
  refine lv_aload_n hx hb dX2_plant_1 rfl (lv_at hl 0 rfl) ?_
  refine va_get (D := g.1) (ci := 0) (v := .int f_seeds) (C := RX2) (T := TX2) (N := 8) hx hb hts iwX2 hown hK hP (1 + k) (e_pk hk (hL.1 _) (Q := (f_paths, f_water, f_wall, f_kind, f_place, f_facing, f_age, f_seeds, f_season, f_z, f_spots))) rfl 4 (by decide) hw0 (fun _ h9 => h9) rfl dX2_plant_2 ?_
  obtain ⟨q1, hq1, hf⟩ := bd_some hf
  refine kr_S (st1 := [va_rf (Option.map (fun j => ga g (25 + 8 * k + j)) q1)]) (va_runV (As := [.int f_seeds]) (rest := []) ⟨hx, hb, hml, hown, hts⟩ (ct_X2_sownAt l n g (S (f_paths, f_water, f_wall, f_kind, f_place, f_facing, f_age, f_seeds, f_season, f_z, f_spots)) k hk f_paths f_water f_wall f_kind f_place f_facing f_age f_seeds f_season f_z f_spots (hL.1 _) f_seeds q1 hq1) (cwV 1 hts gX2_plant_X2_sownAt rfl rfl rfl hd_X2_sownAt ⟨Nat.le_of_ble_eq_true rfl, Nat.le_of_ble_eq_true rfl⟩) ⟨bl_C, va_recv hK hP (ci := 0) (q0 := (1 + k)) rfl (e_pk hk (hL.1 _) (Q := (f_paths, f_water, f_wall, f_kind, f_place, f_facing, f_age, f_seeds, f_season, f_z, f_spots))), pr_C rfl hB hP hS⟩ rfl rfl hl.1 rfl (lv_room (Nat.le_of_ble_eq_true rfl)) dX2_plant_5 ⟨Nat.le_refl _, Nat.le_refl _⟩) rfl (fun hn2 => ?_)
  rcases q1 with _ | j3
  · have hf := eo_n hf
    refine W.eq (g2 := F0 m 8 ls [.null]) rfl ?_
    refine lv_astoreN (lv' := [(5, .null), (0, .ref (ga g (1 + k))), (1, .int a1), (2, .int a2), (3, .int a3), (4, .int a4)]) hx hb dX2_plant_8 hl (by decide) rfl (fun ls hl => ?_)
    refine lv_aloadN hx hb dX2_plant_10 (lv_at hl 0 rfl) ?_
    refine lv_ifnonnullN hx hb dX2_plant_12 ?_
    refine lv_iconst (v := (-1 : Int32)) hx hb dX2_plant_15 (by decide) ?_
    have hres : ((-1 : Int32), f_kind, f_place, f_facing, f_age, f_seeds) = res := (Option.some.inj hf)
    have hP := w_eq (congrArg (fun z => cw g (S (f_paths, f_water, f_wall, z.2.1, z.2.2.1, z.2.2.2.1, z.2.2.2.2.1, z.2.2.2.2.2, f_season, f_z, f_spots))) hres) hP
    exact W.iret (v := (-1 : Int32)) hx hb hr (fun t ht hW => ⟨congrArg (fun z => Outcome.returned (some (Value.int z.1))) hres, trivial, by rw [ht]; exact hP, hS.F ht⟩) hS.2.2 dX2_plant_16
  · have hf := eo_s hf
    have hj4 := hn2 _ rfl
    refine W.eq (g2 := F0 m 8 ls [.ref (ga g (25 + 8 * k + j3))]) rfl ?_
    refine lv_astore (lv' := [(5, .ref (ga g (25 + 8 * k + j3))), (0, .ref (ga g (1 + k))), (1, .int a1), (2, .int a2), (3, .int a3), (4, .int a4)]) hx hb dX2_plant_8 hl (by decide) rfl (fun ls hl => ?_)
    refine lv_aload hx hb dX2_plant_10 (lv_at hl 0 rfl) ?_
    refine lv_ifnonnull (tgt := 17) hx hb dX2_plant_12 (by decide) ?_
    refine lv_aload hx hb dX2_plant_17 (lv_at hl 0 rfl) ?_
    refine lv_iload_n hx hb dX2_plant_19 rfl (lv_at hl 2 rfl) ?_
    refine va_putN (D := g.1) (ci := 1) (v := .int a1) (ty := .int) (C := RX3) (T := TX3) (N := 4) hx hb hts iwX3 tyX3 tyX3_ok nmX3 hown hK hP (cD hB.2.2.1 _) hS (25 + 8 * k + j3) (e_sd hk hj4 (hL.1 _) (Q := (f_paths, f_water, f_wall, f_kind, f_place, f_facing, f_age, f_seeds, f_season, f_z, f_spots))) rfl 0 (by decide) (nf_X2_65 hNW) (fun _ h9 => h9) rfl (tyX3_ok 0 (by decide)) rfl rfl (Nat.le_of_ble_eq_true rfl) dX2_plant_20 (fun H locs hP _ hS => ?_)
    have hP : va_P g.1 vwCl (cw g (S (f_paths, f_water, f_wall, (upd f_kind j3 a1), f_place, f_facing, f_age, f_seeds, f_season, f_z, f_spots))) H := w_eq (s_kind (S := S) (P := (f_paths, f_water, f_wall, f_kind, f_place, f_facing, f_age, f_seeds, f_season, f_z, f_spots)) a1 hk hj4 hL) hP
    refine lv_aload hx hb dX2_plant_23 (lv_at hl 0 rfl) ?_
    refine lv_iload_n hx hb dX2_plant_25 rfl (lv_at hl 3 rfl) ?_
    refine va_putN (D := g.1) (ci := 1) (v := .int a2) (ty := .int) (C := RX3) (T := TX3) (N := 4) hx hb hts iwX3 tyX3 tyX3_ok nmX3 hown hK hP (cD hB.2.2.1 _) hS (25 + 8 * k + j3) (e_sd hk hj4 (hL.1 _) (Q := (f_paths, f_water, f_wall, (upd f_kind j3 a1), f_place, f_facing, f_age, f_seeds, f_season, f_z, f_spots))) rfl 1 (by decide) (nf_X2_68 hNW) (fun _ h9 => h9) rfl (tyX3_ok 1 (by decide)) rfl rfl (Nat.le_of_ble_eq_true rfl) dX2_plant_26 (fun H locs hP _ hS => ?_)
    have hP : va_P g.1 vwCl (cw g (S (f_paths, f_water, f_wall, (upd f_kind j3 a1), (upd f_place j3 a2), f_facing, f_age, f_seeds, f_season, f_z, f_spots))) H := w_eq (s_place (S := S) (P := (f_paths, f_water, f_wall, (upd f_kind j3 a1), f_place, f_facing, f_age, f_seeds, f_season, f_z, f_spots)) a2 hk hj4 hL) hP
    refine lv_aload hx hb dX2_plant_29 (lv_at hl 0 rfl) ?_
    refine lv_iload_n hx hb dX2_plant_31 rfl (lv_at hl 4 rfl) ?_
    refine va_putN (D := g.1) (ci := 1) (v := .int a3) (ty := .int) (C := RX3) (T := TX3) (N := 4) hx hb hts iwX3 tyX3 tyX3_ok nmX3 hown hK hP (cD hB.2.2.1 _) hS (25 + 8 * k + j3) (e_sd hk hj4 (hL.1 _) (Q := (f_paths, f_water, f_wall, (upd f_kind j3 a1), (upd f_place j3 a2), f_facing, f_age, f_seeds, f_season, f_z, f_spots))) rfl 2 (by decide) (nf_X2_71 hNW) (fun _ h9 => h9) rfl (tyX3_ok 2 (by decide)) rfl rfl (Nat.le_of_ble_eq_true rfl) dX2_plant_32 (fun H locs hP _ hS => ?_)
    have hP : va_P g.1 vwCl (cw g (S (f_paths, f_water, f_wall, (upd f_kind j3 a1), (upd f_place j3 a2), (upd f_facing j3 a3), f_age, f_seeds, f_season, f_z, f_spots))) H := w_eq (s_facing (S := S) (P := (f_paths, f_water, f_wall, (upd f_kind j3 a1), (upd f_place j3 a2), f_facing, f_age, f_seeds, f_season, f_z, f_spots)) a3 hk hj4 hL) hP
    refine lv_aload hx hb dX2_plant_35 (lv_at hl 0 rfl) ?_
    refine lv_iload hx hb dX2_plant_37 (lv_at hl 5 rfl) ?_
    refine va_putN (D := g.1) (ci := 1) (v := .int a4) (ty := .int) (C := RX3) (T := TX3) (N := 4) hx hb hts iwX3 tyX3 tyX3_ok nmX3 hown hK hP (cD hB.2.2.1 _) hS (25 + 8 * k + j3) (e_sd hk hj4 (hL.1 _) (Q := (f_paths, f_water, f_wall, (upd f_kind j3 a1), (upd f_place j3 a2), (upd f_facing j3 a3), f_age, f_seeds, f_season, f_z, f_spots))) rfl 3 (by decide) (nf_X2_74 hNW) (fun _ h9 => h9) rfl (tyX3_ok 3 (by decide)) rfl rfl (Nat.le_of_ble_eq_true rfl) dX2_plant_39 (fun H locs hP _ hS => ?_)
    have hP : va_P g.1 vwCl (cw g (S (f_paths, f_water, f_wall, (upd f_kind j3 a1), (upd f_place j3 a2), (upd f_facing j3 a3), (upd f_age j3 a4), f_seeds, f_season, f_z, f_spots))) H := w_eq (s_age (S := S) (P := (f_paths, f_water, f_wall, (upd f_kind j3 a1), (upd f_place j3 a2), (upd f_facing j3 a3), f_age, f_seeds, f_season, f_z, f_spots)) a4 hk hj4 hL) hP
    refine lv_aload_n hx hb dX2_plant_42 rfl (lv_at hl 1 rfl) ?_
    refine lv_dup hx hb dX2_plant_43 rfl ?_
    refine va_get (D := g.1) (ci := 0) (v := .int f_seeds) (C := RX2) (T := TX2) (N := 8) hx hb hts iwX2 hown hK hP (1 + k) (e_pk hk (hL.1 _) (Q := (f_paths, f_water, f_wall, (upd f_kind j3 a1), (upd f_place j3 a2), (upd f_facing j3 a3), (upd f_age j3 a4), f_seeds, f_season, f_z, f_spots))) rfl 4 (by decide) hw0 (fun _ h9 => h9) rfl dX2_plant_44 ?_
    refine lv_iconst (v := (1 : Int32)) hx hb dX2_plant_47 (by decide) ?_
    refine lv_iadd hx hb dX2_plant_48 ?_
    refine va_put (D := g.1) (ci := 0) (v := .int (f_seeds + (1 : Int32))) (ty := .int) (C := RX2) (T := TX2) (N := 8) hx hb hts iwX2 tyX2 tyX2_ok nmX2 hown hK hP (cD hB.2.2.1 _) hS (1 + k) (e_pk hk (hL.1 _) (Q := (f_paths, f_water, f_wall, (upd f_kind j3 a1), (upd f_place j3 a2), (upd f_facing j3 a3), (upd f_age j3 a4), f_seeds, f_season, f_z, f_spots))) rfl 4 (by decide) hw0 (fun _ h9 => h9) rfl (tyX2_ok 4 (by decide)) rfl rfl (Nat.le_of_ble_eq_true rfl) dX2_plant_49 (fun H locs hP _ hS => ?_)
    have hP : va_P g.1 vwCl (cw g (S (f_paths, f_water, f_wall, (upd f_kind j3 a1), (upd f_place j3 a2), (upd f_facing j3 a3), (upd f_age j3 a4), (f_seeds + (1 : Int32)), f_season, f_z, f_spots))) H := w_eq (s_seeds (S := S) (P := (f_paths, f_water, f_wall, (upd f_kind j3 a1), (upd f_place j3 a2), (upd f_facing j3 a3), (upd f_age j3 a4), f_seeds, f_season, f_z, f_spots)) (f_seeds + (1 : Int32)) hk hL) hP
    refine lv_aload_n hx hb dX2_plant_52 rfl (lv_at hl 1 rfl) ?_
    refine va_get (D := g.1) (ci := 0) (v := .int (f_seeds + (1 : Int32))) (C := RX2) (T := TX2) (N := 8) hx hb hts iwX2 hown hK hP (1 + k) (e_pk hk (hL.1 _) (Q := (f_paths, f_water, f_wall, (upd f_kind j3 a1), (upd f_place j3 a2), (upd f_facing j3 a3), (upd f_age j3 a4), (f_seeds + (1 : Int32)), f_season, f_z, f_spots))) rfl 4 (by decide) hw0 (fun _ h9 => h9) rfl dX2_plant_53 ?_
    refine lv_iconst (v := (1 : Int32)) hx hb dX2_plant_56 (by decide) ?_
    refine lv_isub hx hb dX2_plant_57 ?_
    have hres : (((f_seeds + (1 : Int32)) - (1 : Int32)), (upd f_kind j3 a1), (upd f_place j3 a2), (upd f_facing j3 a3), (upd f_age j3 a4), (f_seeds + (1 : Int32))) = res := (Option.some.inj hf)
    have hP := w_eq (congrArg (fun z => cw g (S (f_paths, f_water, f_wall, z.2.1, z.2.2.1, z.2.2.2.1, z.2.2.2.2.1, z.2.2.2.2.2, f_season, f_z, f_spots))) hres) hP
    exact W.iret (v := ((f_seeds + (1 : Int32)) - (1 : Int32))) hx hb hr (fun t ht hW => ⟨congrArg (fun z => Outcome.returned (some (Value.int z.1))) hres, trivial, by rw [ht]; exact hP, hS.F ht⟩) hS.2.2 dX2_plant_58
set_option maxHeartbeats 4000000 in
set_option maxRecDepth 100000 in
theorem ct_X6_sow (l : Launch) (n : Nat) (g : GC) (p0_paths : Nat → Int32) (p0_water : Int64) (p0_wall : Int64) (p0_kind : Nat → Int32) (p0_place : Nat → Int32) (p0_facing : Nat → Int32) (p0_age : Nat → Int32) (p0_seeds : Int32) (p0_season : Int32) (p0_z : Int32) (p0_spots : Nat → Int32) (p1_paths : Nat → Int32) (p1_water : Int64) (p1_wall : Int64) (p1_kind : Nat → Int32) (p1_place : Nat → Int32) (p1_facing : Nat → Int32) (p1_age : Nat → Int32) (p1_seeds : Int32) (p1_season : Int32) (p1_z : Int32) (p1_spots : Nat → Int32) (p2_paths : Nat → Int32) (p2_water : Int64) (p2_wall : Int64) (p2_kind : Nat → Int32) (p2_place : Nat → Int32) (p2_facing : Nat → Int32) (p2_age : Nat → Int32) (p2_seeds : Int32) (p2_season : Int32) (p2_z : Int32) (p2_spots : Nat → Int32) (t_bytes : Nat → Int32) (t_length : Int32) (t_sort : Int32) (t_start : Int32) (t_end : Int32) (t_value : Int32) (h_numbers : Nat → Nat → Int32) (h_bits : Nat → Int32) (h_size : Nat → Int32) (w_isKept : Int32) (w_told : Nat → Int32) (a1 : Int32) (a2 : Int32) (a3 : Int32) (res : Int32 × (Nat → Int32) × (Nat → Int32) × (Nat → Int32) × (Nat → Int32) × Int32 × (Nat → Int32)) (hf : fX6_sow n a1 a2 a3 p0_kind p0_place p0_facing p0_age p0_seeds w_told = some res) : Met l yX6_sow wsX6_sow ({ frames := 2, cells := 0, slots := 0, locals := 46 }) (va_Pc [.ref (ga g 0), .int a1, .int a2, .int a3] (cI g (pk3 (p0_paths, p0_water, p0_wall, p0_kind, p0_place, p0_facing, p0_age, p0_seeds, p0_season, p0_z, p0_spots) (p1_paths, p1_water, p1_wall, p1_kind, p1_place, p1_facing, p1_age, p1_seeds, p1_season, p1_z, p1_spots) (p2_paths, p2_water, p2_wall, p2_kind, p2_place, p2_facing, p2_age, p2_seeds, p2_season, p2_z, p2_spots), w_isKept, (t_bytes, t_length, t_sort, t_start, t_end, t_value), (h_numbers, h_bits, h_size), w_told))) (qW (some (.int res.1)) True g.1 (cw g (pk3 (p0_paths, p0_water, p0_wall, res.2.1, res.2.2.1, res.2.2.2.1, res.2.2.2.2.1, res.2.2.2.2.2.1, p0_season, p0_z, p0_spots) (p1_paths, p1_water, p1_wall, p1_kind, p1_place, p1_facing, p1_age, p1_seeds, p1_season, p1_z, p1_spots) (p2_paths, p2_water, p2_wall, p2_kind, p2_place, p2_facing, p2_age, p2_seeds, p2_season, p2_z, p2_spots), w_isKept, (t_bytes, t_length, t_sort, t_start, t_end, t_value), (h_numbers, h_bits, h_size), res.2.2.2.2.2.2)) (gA g)) 0 0 (gA g) := by
  refine Met.ofW (cc := cX6_sow) (maxL := 4) (ret := (some .int)) (by decide) rfl ?_
  intro p e s m args below meth c s₁ B hml hv
  obtain ⟨rfl, hI⟩ := hv
  have hx := B.exec
  have hb := B.bytes
  have hr := B.returns
  have hts := atoms_spec (ws := wsX6_sow) B.pre
  have hown : s.vm.findClass RX6 = some m.cls := findClass_of_methodNamed B.named
  have hlocks := B.notSynchronized
  have hP := hI.1
  have hB := hI.2
  have hK := hB.1
  have hNW := hB.2.1
  have hS : va_S (gA g) s.heap s.heap [] := va_S.rf
  have hw0 := hts (.fieldLink RX6 10 "SownPaths" "park" "LSownPaths$Park;") (by decide +kernel)
  have iwX6 : ∀ w ∈ wsX60, w ∈ wsX6_sow := fun w h => List.mem_cons_of_mem _ (List.mem_append_left _ (List.mem_append_left _ (List.mem_append_right _ h)))
  have hl := lv_entry ([.ref (ga g 0), .int a1, .int a2, .int a3]) (n := 4) (Nat.le_of_ble_eq_true rfl)
  rw [lg_entry_eq]
  generalize (lg_sl ([.ref (ga g 0), .int a1, .int a2, .int a3]) ++ List.replicate (4 - (lg_sl ([.ref (ga g 0), .int a1, .int a2, .int a3])).length) Slot.unset).toArray = ls at hl ⊢
  have hl : lv_has ls 4 [(0, .ref (ga g 0)), (1, .int a1), (2, .int a2), (3, .int a3)] := hl
  unfold fX6_sow at hf
  refine lv_iload_n hx hb dX6_sow_0 rfl (lv_at hl 1 rfl) ?_
  obtain ⟨q1, hq1, hf⟩ := bd_some hf
  refine kr_S (st1 := [.int q1]) (va_runS (As := [.int a1]) (rest := []) ⟨hx, hb, hml, hown, hts⟩ (ct_X6_isKind l n a1 q1 hq1) (va_cwS 1 hts gX6_sow_X6_isKind rfl rfl rfl hn_X6_isKind ⟨Nat.le_of_ble_eq_true rfl, Nat.le_of_ble_eq_true rfl⟩) ⟨bl_N, pr_N rfl hNW⟩ rfl rfl hl.1 rfl (lv_room (Nat.le_of_ble_eq_true rfl)) dX6_sow_1 ⟨Nat.le_refl _, Nat.le_refl _⟩) rfl (fun hn2 => ?_)
  refine lv_if_eq (tgt := 21) hx hb dX6_sow_4 (by decide) (fun hc3 => ?_) (fun hc3 => ?_)
  · have hf := (if_pos hc3).symm.trans hf
    refine lv_aload_n hx hb dX6_sow_21 rfl (lv_at hl 0 rfl) ?_
    refine lv_iconst (v := (0 : Int32)) hx hb dX6_sow_22 (by decide) ?_
    obtain ⟨q4, hq4, hf⟩ := bd_some hf
    refine kr_W (st1 := [.int q4.1]) (va_runV (As := [.int (0 : Int32)]) (rest := []) ⟨hx, hb, hml, hown, hts⟩ (ct_X6_finding l n g p0_paths p0_water p0_wall p0_kind p0_place p0_facing p0_age p0_seeds p0_season p0_z p0_spots p1_paths p1_water p1_wall p1_kind p1_place p1_facing p1_age p1_seeds p1_season p1_z p1_spots p2_paths p2_water p2_wall p2_kind p2_place p2_facing p2_age p2_seeds p2_season p2_z p2_spots t_bytes t_length t_sort t_start t_end t_value h_numbers h_bits h_size w_isKept w_told (0 : Int32) q4 hq4) (cwV 1 hts gX6_sow_X6_finding rfl rfl rfl hd_X6_finding ⟨Nat.le_of_ble_eq_true rfl, Nat.le_of_ble_eq_true rfl⟩) ⟨bl_C, va_recv hK hP (ci := 4) (q0 := 0) rfl q_sp, pr_C rfl hB hP hS⟩ rfl rfl hl.1 rfl (lv_room (Nat.le_of_ble_eq_true rfl)) dX6_sow_23 ⟨Nat.le_refl _, Nat.le_refl _⟩) hS rfl (fun hn5 H locs hP hS => ?_)
    have hP : va_P g.1 vwCl (cw g (pk3 (p0_paths, p0_water, p0_wall, p0_kind, p0_place, p0_facing, p0_age, p0_seeds, p0_season, p0_z, p0_spots) (p1_paths, p1_water, p1_wall, p1_kind, p1_place, p1_facing, p1_age, p1_seeds, p1_season, p1_z, p1_spots) (p2_paths, p2_water, p2_wall, p2_kind, p2_place, p2_facing, p2_age, p2_seeds, p2_season, p2_z, p2_spots), w_isKept, (t_bytes, t_length, t_sort, t_start, t_end, t_value), (h_numbers, h_bits, h_size), q4.2)) H := hP
    have hres : (q4.1, p0_kind, p0_place, p0_facing, p0_age, p0_seeds, q4.2) = res := (Option.some.inj hf)
    have hP := w_eq (congrArg (fun z => cw g (pk3 (p0_paths, p0_water, p0_wall, z.2.1, z.2.2.1, z.2.2.2.1, z.2.2.2.2.1, z.2.2.2.2.2.1, p0_season, p0_z, p0_spots) (p1_paths, p1_water, p1_wall, p1_kind, p1_place, p1_facing, p1_age, p1_seeds, p1_season, p1_z, p1_spots) (p2_paths, p2_water, p2_wall, p2_kind, p2_place, p2_facing, p2_age, p2_seeds, p2_season, p2_z, p2_spots), w_isKept, (t_bytes, t_length, t_sort, t_start, t_end, t_value), (h_numbers, h_bits, h_size), z.2.2.2.2.2.2)) hres) hP
    exact W.iret (v := q4.1) hx hb hr (fun t ht hW => ⟨congrArg (fun z => Outcome.returned (some (Value.int z.1))) hres, trivial, by rw [ht]; exact hP, hS.F ht⟩) hS.2.2 dX6_sow_26
  · have hf := (if_neg hc3).symm.trans hf
    refine lv_iload_n hx hb dX6_sow_7 rfl (lv_at hl 2 rfl) ?_
    obtain ⟨q6, hq6, hf⟩ := bd_some hf
    refine kr_S (st1 := [.int q6]) (va_runS (As := [.int a2]) (rest := []) ⟨hx, hb, hml, hown, hts⟩ (ct_X6_isCell l n a2 q6 hq6) (va_cwS 1 hts gX6_sow_X6_isCell rfl rfl rfl hn_X6_isCell ⟨Nat.le_of_ble_eq_true rfl, Nat.le_of_ble_eq_true rfl⟩) ⟨bl_N, pr_N rfl hNW⟩ rfl rfl hl.1 rfl (lv_room (Nat.le_of_ble_eq_true rfl)) dX6_sow_8 ⟨Nat.le_refl _, Nat.le_refl _⟩) rfl (fun hn7 => ?_)
    refine lv_if_eq (tgt := 21) hx hb dX6_sow_11 (by decide) (fun hc8 => ?_) (fun hc8 => ?_)
    · have hf := (if_pos hc8).symm.trans hf
      refine lv_aload_n hx hb dX6_sow_21 rfl (lv_at hl 0 rfl) ?_
      refine lv_iconst (v := (0 : Int32)) hx hb dX6_sow_22 (by decide) ?_
      obtain ⟨q9, hq9, hf⟩ := bd_some hf
      refine kr_W (st1 := [.int q9.1]) (va_runV (As := [.int (0 : Int32)]) (rest := []) ⟨hx, hb, hml, hown, hts⟩ (ct_X6_finding l n g p0_paths p0_water p0_wall p0_kind p0_place p0_facing p0_age p0_seeds p0_season p0_z p0_spots p1_paths p1_water p1_wall p1_kind p1_place p1_facing p1_age p1_seeds p1_season p1_z p1_spots p2_paths p2_water p2_wall p2_kind p2_place p2_facing p2_age p2_seeds p2_season p2_z p2_spots t_bytes t_length t_sort t_start t_end t_value h_numbers h_bits h_size w_isKept w_told (0 : Int32) q9 hq9) (cwV 1 hts gX6_sow_X6_finding rfl rfl rfl hd_X6_finding ⟨Nat.le_of_ble_eq_true rfl, Nat.le_of_ble_eq_true rfl⟩) ⟨bl_C, va_recv hK hP (ci := 4) (q0 := 0) rfl q_sp, pr_C rfl hB hP hS⟩ rfl rfl hl.1 rfl (lv_room (Nat.le_of_ble_eq_true rfl)) dX6_sow_23 ⟨Nat.le_refl _, Nat.le_refl _⟩) hS rfl (fun hn10 H locs hP hS => ?_)
      have hP : va_P g.1 vwCl (cw g (pk3 (p0_paths, p0_water, p0_wall, p0_kind, p0_place, p0_facing, p0_age, p0_seeds, p0_season, p0_z, p0_spots) (p1_paths, p1_water, p1_wall, p1_kind, p1_place, p1_facing, p1_age, p1_seeds, p1_season, p1_z, p1_spots) (p2_paths, p2_water, p2_wall, p2_kind, p2_place, p2_facing, p2_age, p2_seeds, p2_season, p2_z, p2_spots), w_isKept, (t_bytes, t_length, t_sort, t_start, t_end, t_value), (h_numbers, h_bits, h_size), q9.2)) H := hP
      have hres : (q9.1, p0_kind, p0_place, p0_facing, p0_age, p0_seeds, q9.2) = res := (Option.some.inj hf)
      have hP := w_eq (congrArg (fun z => cw g (pk3 (p0_paths, p0_water, p0_wall, z.2.1, z.2.2.1, z.2.2.2.1, z.2.2.2.2.1, z.2.2.2.2.2.1, p0_season, p0_z, p0_spots) (p1_paths, p1_water, p1_wall, p1_kind, p1_place, p1_facing, p1_age, p1_seeds, p1_season, p1_z, p1_spots) (p2_paths, p2_water, p2_wall, p2_kind, p2_place, p2_facing, p2_age, p2_seeds, p2_season, p2_z, p2_spots), w_isKept, (t_bytes, t_length, t_sort, t_start, t_end, t_value), (h_numbers, h_bits, h_size), z.2.2.2.2.2.2)) hres) hP
      exact W.iret (v := q9.1) hx hb hr (fun t ht hW => ⟨congrArg (fun z => Outcome.returned (some (Value.int z.1))) hres, trivial, by rw [ht]; exact hP, hS.F ht⟩) hS.2.2 dX6_sow_26
    · have hf := (if_neg hc8).symm.trans hf
      refine lv_iload_n hx hb dX6_sow_14 rfl (lv_at hl 3 rfl) ?_
      obtain ⟨q11, hq11, hf⟩ := bd_some hf
      refine kr_S (st1 := [.int q11]) (va_runS (As := [.int a3]) (rest := []) ⟨hx, hb, hml, hown, hts⟩ (ct_X6_isHeading l n a3 q11 hq11) (va_cwS 1 hts gX6_sow_X6_isHeading rfl rfl rfl hn_X6_isHeading ⟨Nat.le_of_ble_eq_true rfl, Nat.le_of_ble_eq_true rfl⟩) ⟨bl_N, pr_N rfl hNW⟩ rfl rfl hl.1 rfl (lv_room (Nat.le_of_ble_eq_true rfl)) dX6_sow_15 ⟨Nat.le_refl _, Nat.le_refl _⟩) rfl (fun hn12 => ?_)
      refine lv_if_ne (tgt := 27) hx hb dX6_sow_18 (by decide) (fun hc13 => ?_) (fun hc13 => ?_)
      · have hf := (if_neg hc13).symm.trans hf
        refine lv_aload_n hx hb dX6_sow_27 rfl (lv_at hl 0 rfl) ?_
        refine va_get (D := g.1) (ci := 4) (v := .ref (ga g (1 + 0))) (C := RX6) (T := TX6) (N := 7) hx hb hts iwX6 hown hK hP 0 q_sp rfl 0 (by decide) hw0 (fun _ h9 => h9) rfl dX6_sow_28 ?_
        obtain ⟨q14, hq14, hf⟩ := bd_some hf
        refine kr_S (st1 := [.int q14]) (va_runV (As := []) (rest := []) ⟨hx, hb, hml, hown, hts⟩ (ct_X2_isFull l n g (pk3 (p0_paths, p0_water, p0_wall, p0_kind, p0_place, p0_facing, p0_age, p0_seeds, p0_season, p0_z, p0_spots) (p1_paths, p1_water, p1_wall, p1_kind, p1_place, p1_facing, p1_age, p1_seeds, p1_season, p1_z, p1_spots) (p2_paths, p2_water, p2_wall, p2_kind, p2_place, p2_facing, p2_age, p2_seeds, p2_season, p2_z, p2_spots), w_isKept, (t_bytes, t_length, t_sort, t_start, t_end, t_value), (h_numbers, h_bits, h_size), w_told) 0 (by decide) p0_paths p0_water p0_wall p0_kind p0_place p0_facing p0_age p0_seeds p0_season p0_z p0_spots rfl q14 hq14) (cwV 0 hts gX6_sow_X2_isFull rfl rfl rfl hd_X2_isFull ⟨Nat.le_of_ble_eq_true rfl, Nat.le_of_ble_eq_true rfl⟩) ⟨bl_C, va_recv hK hP (ci := 0) (q0 := (1 + 0)) rfl (e_pk (by decide) rfl (Q := (p0_paths, p0_water, p0_wall, p0_kind, p0_place, p0_facing, p0_age, p0_seeds, p0_season, p0_z, p0_spots))), pr_C rfl hB hP hS⟩ rfl rfl hl.1 rfl (lv_room (Nat.le_of_ble_eq_true rfl)) dX6_sow_31 ⟨Nat.le_refl _, Nat.le_refl _⟩) rfl (fun hn15 => ?_)
        refine lv_if_eq (tgt := 43) hx hb dX6_sow_34 (by decide) (fun hc16 => ?_) (fun hc16 => ?_)
        · have hf := (if_pos hc16).symm.trans hf
          refine lv_aload_n hx hb dX6_sow_43 rfl (lv_at hl 0 rfl) ?_
          refine va_get (D := g.1) (ci := 4) (v := .ref (ga g (1 + 0))) (C := RX6) (T := TX6) (N := 7) hx hb hts iwX6 hown hK hP 0 q_sp rfl 0 (by decide) hw0 (fun _ h9 => h9) rfl dX6_sow_44 ?_
          refine lv_iload_n hx hb dX6_sow_47 rfl (lv_at hl 1 rfl) ?_
          refine lv_iload_n hx hb dX6_sow_48 rfl (lv_at hl 2 rfl) ?_
          refine lv_iload_n hx hb dX6_sow_49 rfl (lv_at hl 3 rfl) ?_
          refine lv_iconst (v := (0 : Int32)) hx hb dX6_sow_50 (by decide) ?_
          obtain ⟨q17, hq17, hf⟩ := bd_some hf
          refine kr_W (st1 := [.int q17.1]) (va_runV (As := [.int a1, .int a2, .int a3, .int (0 : Int32)]) (rest := []) ⟨hx, hb, hml, hown, hts⟩ (ct_X2_plant l n g (fun P => (pk3 P (p1_paths, p1_water, p1_wall, p1_kind, p1_place, p1_facing, p1_age, p1_seeds, p1_season, p1_z, p1_spots) (p2_paths, p2_water, p2_wall, p2_kind, p2_place, p2_facing, p2_age, p2_seeds, p2_season, p2_z, p2_spots), w_isKept, (t_bytes, t_length, t_sort, t_start, t_end, t_value), (h_numbers, h_bits, h_size), w_told)) 0 (by decide) zP0 p0_paths p0_water p0_wall p0_kind p0_place p0_facing p0_age p0_seeds p0_season p0_z p0_spots a1 a2 a3 (0 : Int32) q17 hq17) (cwV 4 hts gX6_sow_X2_plant rfl rfl rfl hd_X2_plant ⟨Nat.le_of_ble_eq_true rfl, Nat.le_of_ble_eq_true rfl⟩) ⟨bl_C, va_recv hK hP (ci := 0) (q0 := (1 + 0)) rfl (e_pk (by decide) rfl (Q := (p0_paths, p0_water, p0_wall, p0_kind, p0_place, p0_facing, p0_age, p0_seeds, p0_season, p0_z, p0_spots))), pr_C rfl hB hP hS⟩ rfl rfl hl.1 rfl (lv_room (Nat.le_of_ble_eq_true rfl)) dX6_sow_51 ⟨Nat.le_refl _, Nat.le_refl _⟩) hS rfl (fun hn18 H locs hP hS => ?_)
          have hP : va_P g.1 vwCl (cw g (pk3 (p0_paths, p0_water, p0_wall, q17.2.1, q17.2.2.1, q17.2.2.2.1, q17.2.2.2.2.1, q17.2.2.2.2.2, p0_season, p0_z, p0_spots) (p1_paths, p1_water, p1_wall, p1_kind, p1_place, p1_facing, p1_age, p1_seeds, p1_season, p1_z, p1_spots) (p2_paths, p2_water, p2_wall, p2_kind, p2_place, p2_facing, p2_age, p2_seeds, p2_season, p2_z, p2_spots), w_isKept, (t_bytes, t_length, t_sort, t_start, t_end, t_value), (h_numbers, h_bits, h_size), w_told)) H := hP
          have hres : (q17.1, q17.2.1, q17.2.2.1, q17.2.2.2.1, q17.2.2.2.2.1, q17.2.2.2.2.2, w_told) = res := (Option.some.inj hf)
          have hP := w_eq (congrArg (fun z => cw g (pk3 (p0_paths, p0_water, p0_wall, z.2.1, z.2.2.1, z.2.2.2.1, z.2.2.2.2.1, z.2.2.2.2.2.1, p0_season, p0_z, p0_spots) (p1_paths, p1_water, p1_wall, p1_kind, p1_place, p1_facing, p1_age, p1_seeds, p1_season, p1_z, p1_spots) (p2_paths, p2_water, p2_wall, p2_kind, p2_place, p2_facing, p2_age, p2_seeds, p2_season, p2_z, p2_spots), w_isKept, (t_bytes, t_length, t_sort, t_start, t_end, t_value), (h_numbers, h_bits, h_size), z.2.2.2.2.2.2)) hres) hP
          exact W.iret (v := q17.1) hx hb hr (fun t ht hW => ⟨congrArg (fun z => Outcome.returned (some (Value.int z.1))) hres, trivial, by rw [ht]; exact hP, hS.F ht⟩) hS.2.2 dX6_sow_54
        · have hf := (if_neg hc16).symm.trans hf
          refine lv_aload_n hx hb dX6_sow_37 rfl (lv_at hl 0 rfl) ?_
          refine lv_iconst (v := (1 : Int32)) hx hb dX6_sow_38 (by decide) ?_
          obtain ⟨q19, hq19, hf⟩ := bd_some hf
          refine kr_W (st1 := [.int q19.1]) (va_runV (As := [.int (1 : Int32)]) (rest := []) ⟨hx, hb, hml, hown, hts⟩ (ct_X6_finding l n g p0_paths p0_water p0_wall p0_kind p0_place p0_facing p0_age p0_seeds p0_season p0_z p0_spots p1_paths p1_water p1_wall p1_kind p1_place p1_facing p1_age p1_seeds p1_season p1_z p1_spots p2_paths p2_water p2_wall p2_kind p2_place p2_facing p2_age p2_seeds p2_season p2_z p2_spots t_bytes t_length t_sort t_start t_end t_value h_numbers h_bits h_size w_isKept w_told (1 : Int32) q19 hq19) (cwV 1 hts gX6_sow_X6_finding rfl rfl rfl hd_X6_finding ⟨Nat.le_of_ble_eq_true rfl, Nat.le_of_ble_eq_true rfl⟩) ⟨bl_C, va_recv hK hP (ci := 4) (q0 := 0) rfl q_sp, pr_C rfl hB hP hS⟩ rfl rfl hl.1 rfl (lv_room (Nat.le_of_ble_eq_true rfl)) dX6_sow_39 ⟨Nat.le_refl _, Nat.le_refl _⟩) hS rfl (fun hn20 H locs hP hS => ?_)
          have hP : va_P g.1 vwCl (cw g (pk3 (p0_paths, p0_water, p0_wall, p0_kind, p0_place, p0_facing, p0_age, p0_seeds, p0_season, p0_z, p0_spots) (p1_paths, p1_water, p1_wall, p1_kind, p1_place, p1_facing, p1_age, p1_seeds, p1_season, p1_z, p1_spots) (p2_paths, p2_water, p2_wall, p2_kind, p2_place, p2_facing, p2_age, p2_seeds, p2_season, p2_z, p2_spots), w_isKept, (t_bytes, t_length, t_sort, t_start, t_end, t_value), (h_numbers, h_bits, h_size), q19.2)) H := hP
          have hres : (q19.1, p0_kind, p0_place, p0_facing, p0_age, p0_seeds, q19.2) = res := (Option.some.inj hf)
          have hP := w_eq (congrArg (fun z => cw g (pk3 (p0_paths, p0_water, p0_wall, z.2.1, z.2.2.1, z.2.2.2.1, z.2.2.2.2.1, z.2.2.2.2.2.1, p0_season, p0_z, p0_spots) (p1_paths, p1_water, p1_wall, p1_kind, p1_place, p1_facing, p1_age, p1_seeds, p1_season, p1_z, p1_spots) (p2_paths, p2_water, p2_wall, p2_kind, p2_place, p2_facing, p2_age, p2_seeds, p2_season, p2_z, p2_spots), w_isKept, (t_bytes, t_length, t_sort, t_start, t_end, t_value), (h_numbers, h_bits, h_size), z.2.2.2.2.2.2)) hres) hP
          exact W.iret (v := q19.1) hx hb hr (fun t ht hW => ⟨congrArg (fun z => Outcome.returned (some (Value.int z.1))) hres, trivial, by rw [ht]; exact hP, hS.F ht⟩) hS.2.2 dX6_sow_42
      · have hf := (if_pos hc13).symm.trans hf
        refine lv_aload_n hx hb dX6_sow_21 rfl (lv_at hl 0 rfl) ?_
        refine lv_iconst (v := (0 : Int32)) hx hb dX6_sow_22 (by decide) ?_
        obtain ⟨q21, hq21, hf⟩ := bd_some hf
        refine kr_W (st1 := [.int q21.1]) (va_runV (As := [.int (0 : Int32)]) (rest := []) ⟨hx, hb, hml, hown, hts⟩ (ct_X6_finding l n g p0_paths p0_water p0_wall p0_kind p0_place p0_facing p0_age p0_seeds p0_season p0_z p0_spots p1_paths p1_water p1_wall p1_kind p1_place p1_facing p1_age p1_seeds p1_season p1_z p1_spots p2_paths p2_water p2_wall p2_kind p2_place p2_facing p2_age p2_seeds p2_season p2_z p2_spots t_bytes t_length t_sort t_start t_end t_value h_numbers h_bits h_size w_isKept w_told (0 : Int32) q21 hq21) (cwV 1 hts gX6_sow_X6_finding rfl rfl rfl hd_X6_finding ⟨Nat.le_of_ble_eq_true rfl, Nat.le_of_ble_eq_true rfl⟩) ⟨bl_C, va_recv hK hP (ci := 4) (q0 := 0) rfl q_sp, pr_C rfl hB hP hS⟩ rfl rfl hl.1 rfl (lv_room (Nat.le_of_ble_eq_true rfl)) dX6_sow_23 ⟨Nat.le_refl _, Nat.le_refl _⟩) hS rfl (fun hn22 H locs hP hS => ?_)
        have hP : va_P g.1 vwCl (cw g (pk3 (p0_paths, p0_water, p0_wall, p0_kind, p0_place, p0_facing, p0_age, p0_seeds, p0_season, p0_z, p0_spots) (p1_paths, p1_water, p1_wall, p1_kind, p1_place, p1_facing, p1_age, p1_seeds, p1_season, p1_z, p1_spots) (p2_paths, p2_water, p2_wall, p2_kind, p2_place, p2_facing, p2_age, p2_seeds, p2_season, p2_z, p2_spots), w_isKept, (t_bytes, t_length, t_sort, t_start, t_end, t_value), (h_numbers, h_bits, h_size), q21.2)) H := hP
        have hres : (q21.1, p0_kind, p0_place, p0_facing, p0_age, p0_seeds, q21.2) = res := (Option.some.inj hf)
        have hP := w_eq (congrArg (fun z => cw g (pk3 (p0_paths, p0_water, p0_wall, z.2.1, z.2.2.1, z.2.2.2.1, z.2.2.2.2.1, z.2.2.2.2.2.1, p0_season, p0_z, p0_spots) (p1_paths, p1_water, p1_wall, p1_kind, p1_place, p1_facing, p1_age, p1_seeds, p1_season, p1_z, p1_spots) (p2_paths, p2_water, p2_wall, p2_kind, p2_place, p2_facing, p2_age, p2_seeds, p2_season, p2_z, p2_spots), w_isKept, (t_bytes, t_length, t_sort, t_start, t_end, t_value), (h_numbers, h_bits, h_size), z.2.2.2.2.2.2)) hres) hP
        exact W.iret (v := q21.1) hx hb hr (fun t ht hW => ⟨congrArg (fun z => Outcome.returned (some (Value.int z.1))) hres, trivial, by rw [ht]; exact hP, hS.F ht⟩) hS.2.2 dX6_sow_26
set_option maxHeartbeats 4000000 in
set_option maxRecDepth 100000 in
theorem ct_X3_lives (l : Launch) (n : Nat) (g : GC) (σ : CS) (k : Nat) (hk : k < 3) (f_paths : Nat → Int32) (f_water : Int64) (f_wall : Int64) (f_kind : Nat → Int32) (f_place : Nat → Int32) (f_facing : Nat → Int32) (f_age : Nat → Int32) (f_seeds : Int32) (f_season : Int32) (f_z : Int32) (f_spots : Nat → Int32) (he : σ.1 k = (f_paths, f_water, f_wall, f_kind, f_place, f_facing, f_age, f_seeds, f_season, f_z, f_spots)) (j : Nat) (hj : j < 8) (res : Int32) (hf : fX3_lives n j f_kind = some res) : Met l yX3_lives wsX3_lives ({ frames := 0, cells := 0, slots := 0, locals := 0 }) (va_Pc [.ref (ga g (25 + 8 * k + j))] (cI g σ)) (qS (some (.int res)) True) 0 0 (fun _ => False) := by
  refine Met.ofW (cc := cX3_lives) (maxL := 1) (ret := (some .int)) (by decide) rfl ?_
  intro p e s m args below meth c s₁ B hml hv
  obtain ⟨rfl, hI⟩ := hv
  have hx := B.exec
  have hb := B.bytes
  have hr := B.returns
  have hts := atoms_spec (ws := wsX3_lives) B.pre
  have hown : s.vm.findClass RX3 = some m.cls := findClass_of_methodNamed B.named
  have hlocks := B.notSynchronized
  have hP := hI.1
  have hB := hI.2
  have hK := hB.1
  have hNW := hB.2.1
  have hS : va_S (gA g) s.heap s.heap [] := va_S.rf
  have hw0 := hts (.fieldLink RX3 9 "SownPaths$Seed" "kind" "I") (by decide +kernel)
  have iwX3 : ∀ w ∈ wsX30, w ∈ wsX3_lives := fun w h => List.mem_cons_of_mem _ (List.mem_append_right _ h)
  have hl := lv_entry ([.ref (ga g (25 + 8 * k + j))]) (n := 1) (Nat.le_of_ble_eq_true rfl)
  rw [lg_entry_eq]
  generalize (lg_sl ([.ref (ga g (25 + 8 * k + j))]) ++ List.replicate (1 - (lg_sl ([.ref (ga g (25 + 8 * k + j))])).length) Slot.unset).toArray = ls at hl ⊢
  have hl : lv_has ls 1 [(0, .ref (ga g (25 + 8 * k + j)))] := hl
  unfold fX3_lives at hf
  refine lv_aload_n hx hb dX3_lives_0 rfl (lv_at hl 0 rfl) ?_
  refine va_get (D := g.1) (ci := 1) (v := .int (f_kind j)) (C := RX3) (T := TX3) (N := 4) hx hb hts iwX3 hown hK hP (25 + 8 * k + j) (e_sd hk hj he (Q := (f_paths, f_water, f_wall, f_kind, f_place, f_facing, f_age, f_seeds, f_season, f_z, f_spots))) rfl 0 (by decide) hw0 (fun _ h9 => h9) rfl dX3_lives_1 ?_
  by_cases hc1 : (f_kind j) = (1 : Int32)
  · have hf := (if_pos hc1).symm.trans hf
    refine lv_tableIn (tgt := 44) hx hb dX3_lives_4 (by rw [hc1]; decide) (by rw [hc1]; decide) (by rw [hc1]; rfl) (by decide) ?_
    refine lv_iconst (v := (4 : Int32)) hx hb dX3_lives_44 (by decide) ?_
    have hres : (4 : Int32) = res := (Option.some.inj hf)
    exact W.iret (v := (4 : Int32)) hx hb hr (fun t ht hW => ⟨congrArg (fun z => Outcome.returned (some (Value.int z))) hres, trivial, ht⟩) t_nil dX3_lives_45
  · have hf := (if_neg hc1).symm.trans hf
    by_cases hc2 : (f_kind j) = (2 : Int32)
    · have hf := (if_pos hc2).symm.trans hf
      refine lv_tableIn (tgt := 49) hx hb dX3_lives_4 (by rw [hc2]; decide) (by rw [hc2]; decide) (by rw [hc2]; rfl) (by decide) ?_
      refine lv_bipush (v := (30 : Int32)) hx hb dX3_lives_49 (by decide) ?_
      have hres : (30 : Int32) = res := (Option.some.inj hf)
      exact W.iret (v := (30 : Int32)) hx hb hr (fun t ht hW => ⟨congrArg (fun z => Outcome.returned (some (Value.int z))) hres, trivial, ht⟩) t_nil dX3_lives_51
    · have hf := (if_neg hc2).symm.trans hf
      by_cases hc3 : (f_kind j) = (3 : Int32)
      · have hf := (if_pos hc3).symm.trans hf
        refine lv_tableIn (tgt := 52) hx hb dX3_lives_4 (by rw [hc3]; decide) (by rw [hc3]; decide) (by rw [hc3]; rfl) (by decide) ?_
        refine lv_bipush (v := (15 : Int32)) hx hb dX3_lives_52 (by decide) ?_
        have hres : (15 : Int32) = res := (Option.some.inj hf)
        exact W.iret (v := (15 : Int32)) hx hb hr (fun t ht hW => ⟨congrArg (fun z => Outcome.returned (some (Value.int z))) hres, trivial, ht⟩) t_nil dX3_lives_54
      · have hf := (if_neg hc3).symm.trans hf
        by_cases hc4 : (f_kind j) = (4 : Int32)
        · have hf := (if_pos hc4).symm.trans hf
          refine lv_tableIn (tgt := 55) hx hb dX3_lives_4 (by rw [hc4]; decide) (by rw [hc4]; decide) (by rw [hc4]; rfl) (by decide) ?_
          refine lv_bipush (v := (16 : Int32)) hx hb dX3_lives_55 (by decide) ?_
          have hres : (16 : Int32) = res := (Option.some.inj hf)
          exact W.iret (v := (16 : Int32)) hx hb hr (fun t ht hW => ⟨congrArg (fun z => Outcome.returned (some (Value.int z))) hres, trivial, ht⟩) t_nil dX3_lives_57
        · have hf := (if_neg hc4).symm.trans hf
          by_cases hc5 : (f_kind j) = (5 : Int32)
          · have hf := (if_pos hc5).symm.trans hf
            refine lv_tableIn (tgt := 58) hx hb dX3_lives_4 (by rw [hc5]; decide) (by rw [hc5]; decide) (by rw [hc5]; rfl) (by decide) ?_
            refine lv_bipush (v := (20 : Int32)) hx hb dX3_lives_58 (by decide) ?_
            have hres : (20 : Int32) = res := (Option.some.inj hf)
            exact W.iret (v := (20 : Int32)) hx hb hr (fun t ht hW => ⟨congrArg (fun z => Outcome.returned (some (Value.int z))) hres, trivial, ht⟩) t_nil dX3_lives_60
          · have hf := (if_neg hc5).symm.trans hf
            by_cases hc6 : (f_kind j) = (6 : Int32)
            · have hf := (if_pos hc6).symm.trans hf
              refine lv_tableIn (tgt := 46) hx hb dX3_lives_4 (by rw [hc6]; decide) (by rw [hc6]; decide) (by rw [hc6]; rfl) (by decide) ?_
              refine lv_bipush (v := (8 : Int32)) hx hb dX3_lives_46 (by decide) ?_
              have hres : (8 : Int32) = res := (Option.some.inj hf)
              exact W.iret (v := (8 : Int32)) hx hb hr (fun t ht hW => ⟨congrArg (fun z => Outcome.returned (some (Value.int z))) hres, trivial, ht⟩) t_nil dX3_lives_48
            · have hf := (if_neg hc6).symm.trans hf
              refine lv_tableOut (tgt := 58) hx hb dX3_lives_4 (by have := lv_neT (a := 1) hc1 rfl; have := lv_neT (a := 2) hc2 rfl; have := lv_neT (a := 3) hc3 rfl; have := lv_neT (a := 4) hc4 rfl; have := lv_neT (a := 5) hc5 rfl; have := lv_neT (a := 6) hc6 rfl; omega) (by decide) ?_
              refine lv_bipush (v := (20 : Int32)) hx hb dX3_lives_58 (by decide) ?_
              have hres : (20 : Int32) = res := (Option.some.inj hf)
              exact W.iret (v := (20 : Int32)) hx hb hr (fun t ht hW => ⟨congrArg (fun z => Outcome.returned (some (Value.int z))) hres, trivial, ht⟩) t_nil dX3_lives_60
set_option maxHeartbeats 4000000 in
set_option maxRecDepth 100000 in
theorem ct_X3_treads (l : Launch) (n : Nat) (g : GC) (σ : CS) (k : Nat) (hk : k < 3) (f_paths : Nat → Int32) (f_water : Int64) (f_wall : Int64) (f_kind : Nat → Int32) (f_place : Nat → Int32) (f_facing : Nat → Int32) (f_age : Nat → Int32) (f_seeds : Int32) (f_season : Int32) (f_z : Int32) (f_spots : Nat → Int32) (he : σ.1 k = (f_paths, f_water, f_wall, f_kind, f_place, f_facing, f_age, f_seeds, f_season, f_z, f_spots)) (j : Nat) (hj : j < 8) (res : Int32) (hf : fX3_treads n j f_kind = some res) : Met l yX3_treads wsX3_treads ({ frames := 0, cells := 0, slots := 0, locals := 0 }) (va_Pc [.ref (ga g (25 + 8 * k + j))] (cI g σ)) (qS (some (.int res)) True) 0 0 (fun _ => False) := by
  refine Met.ofW (cc := cX3_treads) (maxL := 1) (ret := (some .int)) (by decide) rfl ?_
  intro p e s m args below meth c s₁ B hml hv
  obtain ⟨rfl, hI⟩ := hv
  have hx := B.exec
  have hb := B.bytes
  have hr := B.returns
  have hts := atoms_spec (ws := wsX3_treads) B.pre
  have hown : s.vm.findClass RX3 = some m.cls := findClass_of_methodNamed B.named
  have hlocks := B.notSynchronized
  have hP := hI.1
  have hB := hI.2
  have hK := hB.1
  have hNW := hB.2.1
  have hS : va_S (gA g) s.heap s.heap [] := va_S.rf
  have hw0 := hts (.fieldLink RX3 9 "SownPaths$Seed" "kind" "I") (by decide +kernel)
  have iwX3 : ∀ w ∈ wsX30, w ∈ wsX3_treads := fun w h => List.mem_cons_of_mem _ (List.mem_append_right _ h)
  have hl := lv_entry ([.ref (ga g (25 + 8 * k + j))]) (n := 1) (Nat.le_of_ble_eq_true rfl)
  rw [lg_entry_eq]
  generalize (lg_sl ([.ref (ga g (25 + 8 * k + j))]) ++ List.replicate (1 - (lg_sl ([.ref (ga g (25 + 8 * k + j))])).length) Slot.unset).toArray = ls at hl ⊢
  have hl : lv_has ls 1 [(0, .ref (ga g (25 + 8 * k + j)))] := hl
  unfold fX3_treads at hf
  refine lv_aload_n hx hb dX3_treads_0 rfl (lv_at hl 0 rfl) ?_
  refine va_get (D := g.1) (ci := 1) (v := .int (f_kind j)) (C := RX3) (T := TX3) (N := 4) hx hb hts iwX3 hown hK hP (25 + 8 * k + j) (e_sd hk hj he (Q := (f_paths, f_water, f_wall, f_kind, f_place, f_facing, f_age, f_seeds, f_season, f_z, f_spots))) rfl 0 (by decide) hw0 (fun _ h9 => h9) rfl dX3_treads_1 ?_
  by_cases hc1 : (f_kind j) = (1 : Int32)
  · have hf := (if_pos hc1).symm.trans hf
    refine lv_tableIn (tgt := 44) hx hb dX3_treads_4 (by rw [hc1]; decide) (by rw [hc1]; decide) (by rw [hc1]; rfl) (by decide) ?_
    refine lv_bipush (v := (6 : Int32)) hx hb dX3_treads_44 (by decide) ?_
    have hres : (6 : Int32) = res := (Option.some.inj hf)
    exact W.iret (v := (6 : Int32)) hx hb hr (fun t ht hW => ⟨congrArg (fun z => Outcome.returned (some (Value.int z))) hres, trivial, ht⟩) t_nil dX3_treads_46
  · have hf := (if_neg hc1).symm.trans hf
    by_cases hc2 : (f_kind j) = (2 : Int32)
    · have hf := (if_pos hc2).symm.trans hf
      refine lv_tableIn (tgt := 50) hx hb dX3_treads_4 (by rw [hc2]; decide) (by rw [hc2]; decide) (by rw [hc2]; rfl) (by decide) ?_
      refine lv_bipush (v := (32 : Int32)) hx hb dX3_treads_50 (by decide) ?_
      have hres : (32 : Int32) = res := (Option.some.inj hf)
      exact W.iret (v := (32 : Int32)) hx hb hr (fun t ht hW => ⟨congrArg (fun z => Outcome.returned (some (Value.int z))) hres, trivial, ht⟩) t_nil dX3_treads_52
    · have hf := (if_neg hc2).symm.trans hf
      by_cases hc3 : (f_kind j) = (3 : Int32)
      · have hf := (if_pos hc3).symm.trans hf
        refine lv_tableIn (tgt := 53) hx hb dX3_treads_4 (by rw [hc3]; decide) (by rw [hc3]; decide) (by rw [hc3]; rfl) (by decide) ?_
        refine lv_bipush (v := (32 : Int32)) hx hb dX3_treads_53 (by decide) ?_
        have hres : (32 : Int32) = res := (Option.some.inj hf)
        exact W.iret (v := (32 : Int32)) hx hb hr (fun t ht hW => ⟨congrArg (fun z => Outcome.returned (some (Value.int z))) hres, trivial, ht⟩) t_nil dX3_treads_55
      · have hf := (if_neg hc3).symm.trans hf
        by_cases hc4 : (f_kind j) = (4 : Int32)
        · have hf := (if_pos hc4).symm.trans hf
          refine lv_tableIn (tgt := 56) hx hb dX3_treads_4 (by rw [hc4]; decide) (by rw [hc4]; decide) (by rw [hc4]; rfl) (by decide) ?_
          refine lv_bipush (v := (16 : Int32)) hx hb dX3_treads_56 (by decide) ?_
          have hres : (16 : Int32) = res := (Option.some.inj hf)
          exact W.iret (v := (16 : Int32)) hx hb hr (fun t ht hW => ⟨congrArg (fun z => Outcome.returned (some (Value.int z))) hres, trivial, ht⟩) t_nil dX3_treads_58
        · have hf := (if_neg hc4).symm.trans hf
          by_cases hc5 : (f_kind j) = (5 : Int32)
          · have hf := (if_pos hc5).symm.trans hf
            refine lv_tableIn (tgt := 59) hx hb dX3_treads_4 (by rw [hc5]; decide) (by rw [hc5]; decide) (by rw [hc5]; rfl) (by decide) ?_
            refine lv_bipush (v := (9 : Int32)) hx hb dX3_treads_59 (by decide) ?_
            have hres : (9 : Int32) = res := (Option.some.inj hf)
            exact W.iret (v := (9 : Int32)) hx hb hr (fun t ht hW => ⟨congrArg (fun z => Outcome.returned (some (Value.int z))) hres, trivial, ht⟩) t_nil dX3_treads_61
          · have hf := (if_neg hc5).symm.trans hf
            by_cases hc6 : (f_kind j) = (6 : Int32)
            · have hf := (if_pos hc6).symm.trans hf
              refine lv_tableIn (tgt := 47) hx hb dX3_treads_4 (by rw [hc6]; decide) (by rw [hc6]; decide) (by rw [hc6]; rfl) (by decide) ?_
              refine lv_bipush (v := (6 : Int32)) hx hb dX3_treads_47 (by decide) ?_
              have hres : (6 : Int32) = res := (Option.some.inj hf)
              exact W.iret (v := (6 : Int32)) hx hb hr (fun t ht hW => ⟨congrArg (fun z => Outcome.returned (some (Value.int z))) hres, trivial, ht⟩) t_nil dX3_treads_49
            · have hf := (if_neg hc6).symm.trans hf
              refine lv_tableOut (tgt := 62) hx hb dX3_treads_4 (by have := lv_neT (a := 1) hc1 rfl; have := lv_neT (a := 2) hc2 rfl; have := lv_neT (a := 3) hc3 rfl; have := lv_neT (a := 4) hc4 rfl; have := lv_neT (a := 5) hc5 rfl; have := lv_neT (a := 6) hc6 rfl; omega) (by decide) ?_
              refine lv_bipush (v := (12 : Int32)) hx hb dX3_treads_62 (by decide) ?_
              have hres : (12 : Int32) = res := (Option.some.inj hf)
              exact W.iret (v := (12 : Int32)) hx hb hr (fun t ht hW => ⟨congrArg (fun z => Outcome.returned (some (Value.int z))) hres, trivial, ht⟩) t_nil dX3_treads_64
set_option maxHeartbeats 4000000 in
set_option maxRecDepth 100000 in
theorem ct_X0_turned (l : Launch) (n : Nat) (a0 : Int32) (a1 : Int32) (res : Int32) (hf : fX0_turned n a0 a1 = some res) : Met l yX0_turned wsX0_turned ({ frames := 0, cells := 0, slots := 0, locals := 0 }) (va_Pc [.int a0, .int a1] NW) (qS (some (.int res)) True) 0 0 (fun _ => False) := by
  refine Met.ofW (cc := cX0_turned) (maxL := 2) (ret := (some .int)) (by decide) rfl ?_
  intro p e s m args below meth c s₁ B hml hv
  obtain ⟨rfl, hI⟩ := hv
  have hx := B.exec
  have hb := B.bytes
  have hr := B.returns
  have hts := atoms_spec (ws := wsX0_turned) B.pre
  have hown : s.vm.findClass RX0 = some m.cls := findClass_of_methodNamed B.named
  have hlocks := B.notSynchronized
  have hNW : NW s := hI
  have hl := lv_entry ([.int a0, .int a1]) (n := 2) (Nat.le_of_ble_eq_true rfl)
  rw [lg_entry_eq]
  generalize (lg_sl ([.int a0, .int a1]) ++ List.replicate (2 - (lg_sl ([.int a0, .int a1])).length) Slot.unset).toArray = ls at hl ⊢
  have hl : lv_has ls 2 [(0, .int a0), (1, .int a1)] := hl
  unfold fX0_turned at hf
  refine lv_iload_n hx hb dX0_turned_0 rfl (lv_at hl 0 rfl) ?_
  refine lv_iload_n hx hb dX0_turned_1 rfl (lv_at hl 1 rfl) ?_
  refine lv_iadd hx hb dX0_turned_2 ?_
  refine lv_iconst (v := (4 : Int32)) hx hb dX0_turned_3 (by decide) ?_
  refine lv_irem hx hb dX0_turned_4 (by decide) ?_
  have hres : ((a0 + a1) - (a0 + a1) / (4 : Int32) * (4 : Int32)) = res := (Option.some.inj hf)
  exact W.iret (v := ((a0 + a1) - (a0 + a1) / (4 : Int32) * (4 : Int32))) hx hb hr (fun t ht hW => ⟨congrArg (fun z => Outcome.returned (some (Value.int z))) hres, trivial, ht⟩) t_nil dX0_turned_5
set_option maxHeartbeats 4000000 in
set_option maxRecDepth 100000 in
theorem ct_X0_distance (l : Launch) (n : Nat) (a0 : Int32) (a1 : Int32) (res : Int32) (hf : fX0_distance n a0 a1 = some res) : Met l yX0_distance wsX0_distance ({ frames := 0, cells := 0, slots := 0, locals := 0 }) (va_Pc [.int a0, .int a1] NW) (qS (some (.int res)) True) 0 0 (fun _ => False) := by
  refine Met.ofW (cc := cX0_distance) (maxL := 4) (ret := (some .int)) (by decide) rfl ?_
  intro p e s m args below meth c s₁ B hml hv
  obtain ⟨rfl, hI⟩ := hv
  have hx := B.exec
  have hb := B.bytes
  have hr := B.returns
  have hts := atoms_spec (ws := wsX0_distance) B.pre
  have hown : s.vm.findClass RX0 = some m.cls := findClass_of_methodNamed B.named
  have hlocks := B.notSynchronized
  have hNW : NW s := hI
  have hl := lv_entry ([.int a0, .int a1]) (n := 4) (Nat.le_of_ble_eq_true rfl)
  rw [lg_entry_eq]
  generalize (lg_sl ([.int a0, .int a1]) ++ List.replicate (4 - (lg_sl ([.int a0, .int a1])).length) Slot.unset).toArray = ls at hl ⊢
  have hl : lv_has ls 4 [(0, .int a0), (1, .int a1)] := hl
  unfold fX0_distance at hf
  refine lv_iload_n hx hb dX0_distance_0 rfl (lv_at hl 0 rfl) ?_
  refine lv_bipush (v := (6 : Int32)) hx hb dX0_distance_1 (by decide) ?_
  refine lv_idiv hx hb dX0_distance_3 (by decide) ?_
  refine lv_iload_n hx hb dX0_distance_4 rfl (lv_at hl 1 rfl) ?_
  refine lv_bipush (v := (6 : Int32)) hx hb dX0_distance_5 (by decide) ?_
  refine lv_idiv hx hb dX0_distance_7 (by decide) ?_
  refine lv_isub hx hb dX0_distance_8 ?_
  refine lv_istore_n (lv' := [(2, .int ((a0 / (6 : Int32)) - (a1 / (6 : Int32)))), (0, .int a0), (1, .int a1)]) hx hb dX0_distance_9 rfl hl (by decide) rfl (fun ls hl => ?_)
  refine lv_iload_n hx hb dX0_distance_10 rfl (lv_at hl 1 rfl) ?_
  refine lv_bipush (v := (6 : Int32)) hx hb dX0_distance_11 (by decide) ?_
  refine lv_irem hx hb dX0_distance_13 (by decide) ?_
  refine lv_iload_n hx hb dX0_distance_14 rfl (lv_at hl 2 rfl) ?_
  refine lv_bipush (v := (6 : Int32)) hx hb dX0_distance_15 (by decide) ?_
  refine lv_irem hx hb dX0_distance_17 (by decide) ?_
  refine lv_isub hx hb dX0_distance_18 ?_
  refine lv_istore_n (lv' := [(3, .int ((a0 - a0 / (6 : Int32) * (6 : Int32)) - (a1 - a1 / (6 : Int32) * (6 : Int32)))), (2, .int ((a0 / (6 : Int32)) - (a1 / (6 : Int32)))), (0, .int a0), (1, .int a1)]) hx hb dX0_distance_19 rfl hl (by decide) rfl (fun ls hl => ?_)
  refine lv_iload_n hx hb dX0_distance_20 rfl (lv_at hl 1 rfl) ?_
  refine lv_if_ge (tgt := 29) hx hb dX0_distance_21 (by decide) (fun hc1 => ?_) (fun hc1 => ?_)
  · have hf := (if_pos hc1).symm.trans hf
    refine lv_iload_n hx hb dX0_distance_29 rfl (lv_at hl 1 rfl) ?_
    refine lv_iload_n hx hb dX0_distance_30 rfl (lv_at hl 0 rfl) ?_
    refine lv_if_ge (tgt := 39) hx hb dX0_distance_31 (by decide) (fun hc2 => ?_) (fun hc2 => ?_)
    · have hf := (if_pos hc2).symm.trans hf
      refine lv_iload_n hx hb dX0_distance_39 rfl (lv_at hl 0 rfl) ?_
      refine lv_iadd hx hb dX0_distance_40 ?_
      have hres : (((a0 / (6 : Int32)) - (a1 / (6 : Int32))) + ((a0 - a0 / (6 : Int32) * (6 : Int32)) - (a1 - a1 / (6 : Int32) * (6 : Int32)))) = res := (Option.some.inj hf)
      exact W.iret (v := (((a0 / (6 : Int32)) - (a1 / (6 : Int32))) + ((a0 - a0 / (6 : Int32) * (6 : Int32)) - (a1 - a1 / (6 : Int32) * (6 : Int32))))) hx hb hr (fun t ht hW => ⟨congrArg (fun z => Outcome.returned (some (Value.int z))) hres, trivial, ht⟩) t_nil dX0_distance_41
    · have hf := (if_neg hc2).symm.trans hf
      refine lv_iload_n hx hb dX0_distance_34 rfl (lv_at hl 0 rfl) ?_
      refine lv_ineg hx hb dX0_distance_35 ?_
      refine lv_goto (tgt := 40) hx hb dX0_distance_36 (by decide) ?_
      refine lv_iadd hx hb dX0_distance_40 ?_
      have hres : (((a0 / (6 : Int32)) - (a1 / (6 : Int32))) + (-((a0 - a0 / (6 : Int32) * (6 : Int32)) - (a1 - a1 / (6 : Int32) * (6 : Int32))))) = res := (Option.some.inj hf)
      exact W.iret (v := (((a0 / (6 : Int32)) - (a1 / (6 : Int32))) + (-((a0 - a0 / (6 : Int32) * (6 : Int32)) - (a1 - a1 / (6 : Int32) * (6 : Int32)))))) hx hb hr (fun t ht hW => ⟨congrArg (fun z => Outcome.returned (some (Value.int z))) hres, trivial, ht⟩) t_nil dX0_distance_41
  · have hf := (if_neg hc1).symm.trans hf
    refine lv_iload_n hx hb dX0_distance_24 rfl (lv_at hl 1 rfl) ?_
    refine lv_ineg hx hb dX0_distance_25 ?_
    refine lv_goto (tgt := 30) hx hb dX0_distance_26 (by decide) ?_
    refine lv_iload_n hx hb dX0_distance_30 rfl (lv_at hl 0 rfl) ?_
    refine lv_if_ge (tgt := 39) hx hb dX0_distance_31 (by decide) (fun hc3 => ?_) (fun hc3 => ?_)
    · have hf := (if_pos hc3).symm.trans hf
      refine lv_iload_n hx hb dX0_distance_39 rfl (lv_at hl 0 rfl) ?_
      refine lv_iadd hx hb dX0_distance_40 ?_
      have hres : ((-((a0 / (6 : Int32)) - (a1 / (6 : Int32)))) + ((a0 - a0 / (6 : Int32) * (6 : Int32)) - (a1 - a1 / (6 : Int32) * (6 : Int32)))) = res := (Option.some.inj hf)
      exact W.iret (v := ((-((a0 / (6 : Int32)) - (a1 / (6 : Int32)))) + ((a0 - a0 / (6 : Int32) * (6 : Int32)) - (a1 - a1 / (6 : Int32) * (6 : Int32))))) hx hb hr (fun t ht hW => ⟨congrArg (fun z => Outcome.returned (some (Value.int z))) hres, trivial, ht⟩) t_nil dX0_distance_41
    · have hf := (if_neg hc3).symm.trans hf
      refine lv_iload_n hx hb dX0_distance_34 rfl (lv_at hl 0 rfl) ?_
      refine lv_ineg hx hb dX0_distance_35 ?_
      refine lv_goto (tgt := 40) hx hb dX0_distance_36 (by decide) ?_
      refine lv_iadd hx hb dX0_distance_40 ?_
      have hres : ((-((a0 / (6 : Int32)) - (a1 / (6 : Int32)))) + (-((a0 - a0 / (6 : Int32) * (6 : Int32)) - (a1 - a1 / (6 : Int32) * (6 : Int32))))) = res := (Option.some.inj hf)
      exact W.iret (v := ((-((a0 / (6 : Int32)) - (a1 / (6 : Int32)))) + (-((a0 - a0 / (6 : Int32) * (6 : Int32)) - (a1 - a1 / (6 : Int32) * (6 : Int32)))))) hx hb hr (fun t ht hW => ⟨congrArg (fun z => Outcome.returned (some (Value.int z))) hres, trivial, ht⟩) t_nil dX0_distance_41
set_option maxHeartbeats 4000000 in
set_option maxRecDepth 100000 in
theorem ct_X2_nearestWater (l : Launch) (n : Nat) (g : GC) (σ : CS) (k : Nat) (hk : k < 3) (f_paths : Nat → Int32) (f_water : Int64) (f_wall : Int64) (f_kind : Nat → Int32) (f_place : Nat → Int32) (f_facing : Nat → Int32) (f_age : Nat → Int32) (f_seeds : Int32) (f_season : Int32) (f_z : Int32) (f_spots : Nat → Int32) (he : σ.1 k = (f_paths, f_water, f_wall, f_kind, f_place, f_facing, f_age, f_seeds, f_season, f_z, f_spots)) (j : Nat) (hj : j < 8) (res : Int32) (hf : fX2_nearestWater n j f_water f_place = some res) : Met l yX2_nearestWater wsX2_nearestWater ({ frames := 1, cells := 0, slots := 0, locals := 23 }) (va_Pc [.ref (ga g (1 + k)), .ref (ga g (25 + 8 * k + j))] (cI g σ)) (qS (some (.int res)) True) 0 0 (fun _ => False) := by
  refine Met.ofW (cc := cX2_nearestWater) (maxL := 5) (ret := (some .int)) (by decide) rfl ?_
  intro p e s m args below meth c s₁ B hml hv
  obtain ⟨rfl, hI⟩ := hv
  have hx := B.exec
  have hb := B.bytes
  have hr := B.returns
  have hts := atoms_spec (ws := wsX2_nearestWater) B.pre
  have hown : s.vm.findClass RX2 = some m.cls := findClass_of_methodNamed B.named
  have hlocks := B.notSynchronized
  have hP := hI.1
  have hB := hI.2
  have hK := hB.1
  have hNW := hB.2.1
  have hS : va_S (gA g) s.heap s.heap [] := va_S.rf
  have hw0 := hts (.fieldLink RX2 33 "SownPaths$Park" "water" "J") (by decide +kernel)
  have hw1 := hts (.initialized RX6) (by decide +kernel)
  have hw2 := hts (.static yX6_bit) (by decide +kernel)
  have iwX2 : ∀ w ∈ wsX20, w ∈ wsX2_nearestWater := fun w h => List.mem_cons_of_mem _ (List.mem_append_left _ (List.mem_append_right _ h))
  have iwX3 : ∀ w ∈ wsX30, w ∈ wsX2_nearestWater := fun w h => List.mem_cons_of_mem _ (List.mem_append_right _ h)
  have hl := lv_entry ([.ref (ga g (1 + k)), .ref (ga g (25 + 8 * k + j))]) (n := 5) (Nat.le_of_ble_eq_true rfl)
  rw [lg_entry_eq]
  generalize (lg_sl ([.ref (ga g (1 + k)), .ref (ga g (25 + 8 * k + j))]) ++ List.replicate (5 - (lg_sl ([.ref (ga g (1 + k)), .ref (ga g (25 + 8 * k + j))])).length) Slot.unset).toArray = ls at hl ⊢
  have hl : lv_has ls 5 [(0, .ref (ga g (1 + k))), (1, .ref (ga g (25 + 8 * k + j)))] := hl
  unfold fX2_nearestWater at hf
  refine lv_iconst (v := (-1 : Int32)) hx hb dX2_nearestWater_0 (by decide) ?_
  refine lv_istore_n (lv' := [(2, .int (-1 : Int32)), (0, .ref (ga g (1 + k))), (1, .ref (ga g (25 + 8 * k + j)))]) hx hb dX2_nearestWater_1 rfl hl (by decide) rfl (fun ls hl => ?_)
  refine lv_bipush (v := (36 : Int32)) hx hb dX2_nearestWater_2 (by decide) ?_
  refine lv_istore_n (lv' := [(3, .int (36 : Int32)), (2, .int (-1 : Int32)), (0, .ref (ga g (1 + k))), (1, .ref (ga g (25 + 8 * k + j)))]) hx hb dX2_nearestWater_4 rfl hl (by decide) rfl (fun ls hl => ?_)
  refine lv_iconst (v := (0 : Int32)) hx hb dX2_nearestWater_5 (by decide) ?_
  refine lv_istore (lv' := [(4, .int (0 : Int32)), (3, .int (36 : Int32)), (2, .int (-1 : Int32)), (0, .ref (ga g (1 + k))), (1, .ref (ga g (25 + 8 * k + j)))]) hx hb dX2_nearestWater_6 hl (by decide) rfl (fun ls hl => ?_)
  refine lp_run hf (fun s1 => ∀ (ls : Array Slot), lv_has ls 5 [(0, .ref (ga g (1 + k))), (1, .ref (ga g (25 + 8 * k + j))), (2, .int s1.1), (3, .int s1.2.1), (4, .int s1.2.2)] → W p l e (headSpec wsX2_nearestWater ({ frames := 1, cells := 0, slots := 0, locals := 23 })).room s m ([.ref (ga g (1 + k)), .ref (ga g (25 + 8 * k + j))] : List Value).toArray below meth c s.heap [] 0 0 (MQ below (qS (some (.int res)) True) ([.ref (ga g (1 + k)), .ref (ga g (25 + 8 * k + j))] : List Value).toArray s 0 0 (fun _ => False)) (F0 m 8 ls [])) (fun v2 => ∀ (ls : Array Slot), lv_has ls 5 [(2, .int v2.1)] → W p l e (headSpec wsX2_nearestWater ({ frames := 1, cells := 0, slots := 0, locals := 23 })).room s m ([.ref (ga g (1 + k)), .ref (ga g (25 + 8 * k + j))] : List Value).toArray below meth c s.heap [] 0 0 (MQ below (qS (some (.int res)) True) ([.ref (ga g (1 + k)), .ref (ga g (25 + 8 * k + j))] : List Value).toArray s 0 0 (fun _ => False)) (F0 m 62 ls [])) ?_ ?_ _ (lv_sub hl [3, 4, 2, 1, 0] rfl)
  · intro v2 hf ls hl
    refine lv_iload_n hx hb dX2_nearestWater_62 rfl (lv_at hl 0 rfl) ?_
    have hres : v2.1 = res := (Option.some.inj hf)
    exact W.iret (v := v2.1) hx hb hr (fun t ht hW => ⟨congrArg (fun z => Outcome.returned (some (Value.int z))) hres, trivial, ht⟩) t_nil dX2_nearestWater_63
  · intro s1 r1 hf hback1 hexit1 ls hl
    refine lv_iload hx hb dX2_nearestWater_8 (lv_at hl 4 rfl) ?_
    refine lv_bipush (v := (36 : Int32)) hx hb dX2_nearestWater_10 (by decide) ?_
    refine lv_icmp_ge (tgt := 62) hx hb dX2_nearestWater_12 (by decide) (fun hc3 => ?_) (fun hc3 => ?_)
    · have hf := (if_pos hc3).symm.trans hf
      exact hexit1 (s1.1, s1.2.1, s1.2.2) (Option.some.inj hf).symm ls (lv_sub hl [2] rfl)
    · have hf := (if_neg hc3).symm.trans hf
      refine lv_aload_n hx hb dX2_nearestWater_15 rfl (lv_at hl 0 rfl) ?_
      refine va_get (D := g.1) (ci := 0) (v := .long f_water) (C := RX2) (T := TX2) (N := 8) hx hb hts iwX2 hown hK hP (1 + k) (e_pk hk he (Q := (f_paths, f_water, f_wall, f_kind, f_place, f_facing, f_age, f_seeds, f_season, f_z, f_spots))) rfl 1 (by decide) hw0 (fun _ h9 => h9) rfl dX2_nearestWater_16 ?_
      refine lv_iload hx hb dX2_nearestWater_19 (lv_at hl 4 rfl) ?_
      obtain ⟨q4, hq4, hf⟩ := bd_some hf
      refine kr_S (st1 := [.long q4, .long f_water]) (va_runSN (As := [.int s1.2.2]) (rest := [.long f_water]) ⟨hx, hb, hml, hown, hts⟩ (ct_X6_bit l n s1.2.2 q4 hq4) (⟨va_cnB 1 hts gX2_nearestWater_X6_bit_n77 rfl rfl rfl (ml_X2_77 hNW) hw1 hn_X6_bit ⟨Nat.le_of_ble_eq_true rfl, Nat.le_of_ble_eq_true rfl⟩, hw2, trivial⟩) ⟨bl_N, pr_N rfl hNW⟩ rfl rfl hl.1 rfl (lv_room (Nat.le_of_ble_eq_true rfl)) dX2_nearestWater_21 ⟨Nat.le_refl _, Nat.le_refl _⟩) rfl (fun hn5 => ?_)
      refine lv_land hx hb dX2_nearestWater_24 ?_
      refine lv_lconst (v := (0 : Int64)) hx hb dX2_nearestWater_25 (by decide) ?_
      refine W.lcmp hx hb dX2_nearestWater_26 ?_
      refine lv_if_eq (tgt := 56) hx hb dX2_nearestWater_27 (by decide) (fun hc6 => ?_) (fun hc6 => ?_)
      · have hc6 := (lg_cmp_eq (f_water &&& q4) (0 : Int64)).mp hc6
        have hf := (if_pos hc6).symm.trans hf
        refine lv_iinc (v := (s1.2.2 + (1 : Int32))) (lv' := [(4, .int (s1.2.2 + (1 : Int32))), (0, .ref (ga g (1 + k))), (1, .ref (ga g (25 + 8 * k + j))), (2, .int s1.1), (3, .int s1.2.1)]) hx hb dX2_nearestWater_56 hl (k := 4) rfl (congrArg (fun y => s1.2.2 + y) (by decide : Int32.ofInt (1) = (1 : Int32))) (by decide) rfl (fun ls hl => ?_)
        refine lv_goto (tgt := 8) hx hb dX2_nearestWater_59 (by decide) ?_
        exact hback1 _ (Option.some.inj hf).symm ls (lv_sub hl [1, 2, 3, 4, 0] rfl)
      · have hc6 : ¬ ((f_water &&& q4) = (0 : Int64)) := fun h => hc6 ((lg_cmp_eq (f_water &&& q4) (0 : Int64)).mpr h)
        have hf := (if_neg hc6).symm.trans hf
        refine lv_aload_n hx hb dX2_nearestWater_30 rfl (lv_at hl 1 rfl) ?_
        refine va_getN (D := g.1) (ci := 1) (v := .int (f_place j)) (C := RX3) (T := TX3) (N := 4) hx hb hts iwX3 hown hK hP (25 + 8 * k + j) (e_sd hk hj he (Q := (f_paths, f_water, f_wall, f_kind, f_place, f_facing, f_age, f_seeds, f_season, f_z, f_spots))) rfl 1 (by decide) (nf_X2_68 hNW) (fun _ h9 => h9) rfl dX2_nearestWater_31 ?_
        refine lv_iload hx hb dX2_nearestWater_34 (lv_at hl 4 rfl) ?_
        obtain ⟨q7, hq7, hf⟩ := bd_some hf
        refine kr_S (st1 := [.int q7]) (va_runS (As := [.int (f_place j), .int s1.2.2]) (rest := []) ⟨hx, hb, hml, hown, hts⟩ (ct_X0_distance l n (f_place j) s1.2.2 q7 hq7) (va_cwS 2 hts gX2_nearestWater_X0_distance rfl rfl rfl hn_X0_distance ⟨Nat.le_of_ble_eq_true rfl, Nat.le_of_ble_eq_true rfl⟩) ⟨bl_N, pr_N rfl hNW⟩ rfl rfl hl.1 rfl (lv_room (Nat.le_of_ble_eq_true rfl)) dX2_nearestWater_36 ⟨Nat.le_refl _, Nat.le_refl _⟩) rfl (fun hn8 => ?_)
        refine lv_iload_n hx hb dX2_nearestWater_39 rfl (lv_at hl 3 rfl) ?_
        refine lv_icmp_ge (tgt := 56) hx hb dX2_nearestWater_40 (by decide) (fun hc9 => ?_) (fun hc9 => ?_)
        · have hf := (if_pos hc9).symm.trans hf
          refine lv_iinc (v := (s1.2.2 + (1 : Int32))) (lv' := [(4, .int (s1.2.2 + (1 : Int32))), (0, .ref (ga g (1 + k))), (1, .ref (ga g (25 + 8 * k + j))), (2, .int s1.1), (3, .int s1.2.1)]) hx hb dX2_nearestWater_56 hl (k := 4) rfl (congrArg (fun y => s1.2.2 + y) (by decide : Int32.ofInt (1) = (1 : Int32))) (by decide) rfl (fun ls hl => ?_)
          refine lv_goto (tgt := 8) hx hb dX2_nearestWater_59 (by decide) ?_
          exact hback1 _ (Option.some.inj hf).symm ls (lv_sub hl [1, 2, 3, 4, 0] rfl)
        · have hf := (if_neg hc9).symm.trans hf
          refine lv_aload_n hx hb dX2_nearestWater_43 rfl (lv_at hl 1 rfl) ?_
          refine va_getN (D := g.1) (ci := 1) (v := .int (f_place j)) (C := RX3) (T := TX3) (N := 4) hx hb hts iwX3 hown hK hP (25 + 8 * k + j) (e_sd hk hj he (Q := (f_paths, f_water, f_wall, f_kind, f_place, f_facing, f_age, f_seeds, f_season, f_z, f_spots))) rfl 1 (by decide) (nf_X2_68 hNW) (fun _ h9 => h9) rfl dX2_nearestWater_44 ?_
          refine lv_iload hx hb dX2_nearestWater_47 (lv_at hl 4 rfl) ?_
          obtain ⟨q10, hq10, hf⟩ := bd_some hf
          refine kr_S (st1 := [.int q10]) (va_runS (As := [.int (f_place j), .int s1.2.2]) (rest := []) ⟨hx, hb, hml, hown, hts⟩ (ct_X0_distance l n (f_place j) s1.2.2 q10 hq10) (va_cwS 2 hts gX2_nearestWater_X0_distance rfl rfl rfl hn_X0_distance ⟨Nat.le_of_ble_eq_true rfl, Nat.le_of_ble_eq_true rfl⟩) ⟨bl_N, pr_N rfl hNW⟩ rfl rfl hl.1 rfl (lv_room (Nat.le_of_ble_eq_true rfl)) dX2_nearestWater_49 ⟨Nat.le_refl _, Nat.le_refl _⟩) rfl (fun hn11 => ?_)
          refine lv_istore_n (lv' := [(3, .int q10), (0, .ref (ga g (1 + k))), (1, .ref (ga g (25 + 8 * k + j))), (2, .int s1.1), (4, .int s1.2.2)]) hx hb dX2_nearestWater_52 rfl hl (by decide) rfl (fun ls hl => ?_)
          refine lv_iload hx hb dX2_nearestWater_53 (lv_at hl 4 rfl) ?_
          refine lv_istore_n (lv' := [(2, .int s1.2.2), (3, .int q10), (0, .ref (ga g (1 + k))), (1, .ref (ga g (25 + 8 * k + j))), (4, .int s1.2.2)]) hx hb dX2_nearestWater_55 rfl hl (by decide) rfl (fun ls hl => ?_)
          refine lv_iinc (v := (s1.2.2 + (1 : Int32))) (lv' := [(4, .int (s1.2.2 + (1 : Int32))), (2, .int s1.2.2), (3, .int q10), (0, .ref (ga g (1 + k))), (1, .ref (ga g (25 + 8 * k + j)))]) hx hb dX2_nearestWater_56 hl (k := 4) rfl (congrArg (fun y => s1.2.2 + y) (by decide : Int32.ofInt (1) = (1 : Int32))) (by decide) rfl (fun ls hl => ?_)
          refine lv_goto (tgt := 8) hx hb dX2_nearestWater_59 (by decide) ?_
          exact hback1 _ (Option.some.inj hf).symm ls (lv_sub hl [3, 4, 1, 2, 0] rfl)
set_option maxHeartbeats 4000000 in
set_option maxRecDepth 100000 in
theorem ct_X0_neighbour (l : Launch) (n : Nat) (a0 : Int32) (a1 : Int32) (res : Int32) (hf : fX0_neighbour n a0 a1 = some res) : Met l yX0_neighbour wsX0_neighbour ({ frames := 0, cells := 0, slots := 0, locals := 0 }) (va_Pc [.int a0, .int a1] NW) (qS (some (.int res)) True) 0 0 (fun _ => False) := by
  refine Met.ofW (cc := cX0_neighbour) (maxL := 4) (ret := (some .int)) (by decide) rfl ?_
  intro p e s m args below meth c s₁ B hml hv
  obtain ⟨rfl, hI⟩ := hv
  have hx := B.exec
  have hb := B.bytes
  have hr := B.returns
  have hts := atoms_spec (ws := wsX0_neighbour) B.pre
  have hown : s.vm.findClass RX0 = some m.cls := findClass_of_methodNamed B.named
  have hlocks := B.notSynchronized
  have hNW : NW s := hI
  have hl := lv_entry ([.int a0, .int a1]) (n := 4) (Nat.le_of_ble_eq_true rfl)
  rw [lg_entry_eq]
  generalize (lg_sl ([.int a0, .int a1]) ++ List.replicate (4 - (lg_sl ([.int a0, .int a1])).length) Slot.unset).toArray = ls at hl ⊢
  have hl : lv_has ls 4 [(0, .int a0), (1, .int a1)] := hl
  unfold fX0_neighbour at hf
  refine lv_iload_n hx hb dX0_neighbour_0 rfl (lv_at hl 0 rfl) ?_
  refine lv_bipush (v := (6 : Int32)) hx hb dX0_neighbour_1 (by decide) ?_
  refine lv_idiv hx hb dX0_neighbour_3 (by decide) ?_
  refine lv_istore_n (lv' := [(2, .int (a0 / (6 : Int32))), (0, .int a0), (1, .int a1)]) hx hb dX0_neighbour_4 rfl hl (by decide) rfl (fun ls hl => ?_)
  refine lv_iload_n hx hb dX0_neighbour_5 rfl (lv_at hl 1 rfl) ?_
  refine lv_bipush (v := (6 : Int32)) hx hb dX0_neighbour_6 (by decide) ?_
  refine lv_irem hx hb dX0_neighbour_8 (by decide) ?_
  refine lv_istore_n (lv' := [(3, .int (a0 - a0 / (6 : Int32) * (6 : Int32))), (2, .int (a0 / (6 : Int32))), (0, .int a0), (1, .int a1)]) hx hb dX0_neighbour_9 rfl hl (by decide) rfl (fun ls hl => ?_)
  refine lv_iload_n hx hb dX0_neighbour_10 rfl (lv_at hl 3 rfl) ?_
  by_cases hc1 : a1 = (0 : Int32)
  · have hf := (if_pos hc1).symm.trans hf
    refine lv_tableIn (tgt := 36) hx hb dX0_neighbour_11 (by rw [hc1]; decide) (by rw [hc1]; decide) (by rw [hc1]; rfl) (by decide) ?_
    refine lv_iload_n hx hb dX0_neighbour_36 rfl (lv_at hl 1 rfl) ?_
    refine lv_if_le (tgt := 47) hx hb dX0_neighbour_37 (by decide) (fun hc2 => ?_) (fun hc2 => ?_)
    · have hf := (if_pos hc2).symm.trans hf
      refine lv_iconst (v := (-1 : Int32)) hx hb dX0_neighbour_47 (by decide) ?_
      have hres : (-1 : Int32) = res := (Option.some.inj hf)
      exact W.iret (v := (-1 : Int32)) hx hb hr (fun t ht hW => ⟨congrArg (fun z => Outcome.returned (some (Value.int z))) hres, trivial, ht⟩) t_nil dX0_neighbour_48
    · have hf := (if_neg hc2).symm.trans hf
      refine lv_iload_n hx hb dX0_neighbour_40 rfl (lv_at hl 2 rfl) ?_
      refine lv_bipush (v := (6 : Int32)) hx hb dX0_neighbour_41 (by decide) ?_
      refine lv_isub hx hb dX0_neighbour_43 ?_
      refine lv_goto (tgt := 48) hx hb dX0_neighbour_44 (by decide) ?_
      have hres : (a0 - (6 : Int32)) = res := (Option.some.inj hf)
      exact W.iret (v := (a0 - (6 : Int32))) hx hb hr (fun t ht hW => ⟨congrArg (fun z => Outcome.returned (some (Value.int z))) hres, trivial, ht⟩) t_nil dX0_neighbour_48
  · have hf := (if_neg hc1).symm.trans hf
    by_cases hc3 : a1 = (1 : Int32)
    · have hf := (if_pos hc3).symm.trans hf
      refine lv_tableIn (tgt := 49) hx hb dX0_neighbour_11 (by rw [hc3]; decide) (by rw [hc3]; decide) (by rw [hc3]; rfl) (by decide) ?_
      refine lv_iload_n hx hb dX0_neighbour_49 rfl (lv_at hl 0 rfl) ?_
      refine lv_iconst (v := (5 : Int32)) hx hb dX0_neighbour_50 (by decide) ?_
      refine lv_icmp_ge (tgt := 60) hx hb dX0_neighbour_51 (by decide) (fun hc4 => ?_) (fun hc4 => ?_)
      · have hf := (if_pos hc4).symm.trans hf
        refine lv_iconst (v := (-1 : Int32)) hx hb dX0_neighbour_60 (by decide) ?_
        have hres : (-1 : Int32) = res := (Option.some.inj hf)
        exact W.iret (v := (-1 : Int32)) hx hb hr (fun t ht hW => ⟨congrArg (fun z => Outcome.returned (some (Value.int z))) hres, trivial, ht⟩) t_nil dX0_neighbour_61
      · have hf := (if_neg hc4).symm.trans hf
        refine lv_iload_n hx hb dX0_neighbour_54 rfl (lv_at hl 2 rfl) ?_
        refine lv_iconst (v := (1 : Int32)) hx hb dX0_neighbour_55 (by decide) ?_
        refine lv_iadd hx hb dX0_neighbour_56 ?_
        refine lv_goto (tgt := 61) hx hb dX0_neighbour_57 (by decide) ?_
        have hres : (a0 + (1 : Int32)) = res := (Option.some.inj hf)
        exact W.iret (v := (a0 + (1 : Int32))) hx hb hr (fun t ht hW => ⟨congrArg (fun z => Outcome.returned (some (Value.int z))) hres, trivial, ht⟩) t_nil dX0_neighbour_61
    · have hf := (if_neg hc3).symm.trans hf
      by_cases hc5 : a1 = (2 : Int32)
      · have hf := (if_pos hc5).symm.trans hf
        refine lv_tableIn (tgt := 62) hx hb dX0_neighbour_11 (by rw [hc5]; decide) (by rw [hc5]; decide) (by rw [hc5]; rfl) (by decide) ?_
        refine lv_iload_n hx hb dX0_neighbour_62 rfl (lv_at hl 1 rfl) ?_
        refine lv_iconst (v := (5 : Int32)) hx hb dX0_neighbour_63 (by decide) ?_
        refine lv_icmp_ge (tgt := 74) hx hb dX0_neighbour_64 (by decide) (fun hc6 => ?_) (fun hc6 => ?_)
        · have hf := (if_pos hc6).symm.trans hf
          refine lv_iconst (v := (-1 : Int32)) hx hb dX0_neighbour_74 (by decide) ?_
          have hres : (-1 : Int32) = res := (Option.some.inj hf)
          exact W.iret (v := (-1 : Int32)) hx hb hr (fun t ht hW => ⟨congrArg (fun z => Outcome.returned (some (Value.int z))) hres, trivial, ht⟩) t_nil dX0_neighbour_75
        · have hf := (if_neg hc6).symm.trans hf
          refine lv_iload_n hx hb dX0_neighbour_67 rfl (lv_at hl 2 rfl) ?_
          refine lv_bipush (v := (6 : Int32)) hx hb dX0_neighbour_68 (by decide) ?_
          refine lv_iadd hx hb dX0_neighbour_70 ?_
          refine lv_goto (tgt := 75) hx hb dX0_neighbour_71 (by decide) ?_
          have hres : (a0 + (6 : Int32)) = res := (Option.some.inj hf)
          exact W.iret (v := (a0 + (6 : Int32))) hx hb hr (fun t ht hW => ⟨congrArg (fun z => Outcome.returned (some (Value.int z))) hres, trivial, ht⟩) t_nil dX0_neighbour_75
      · have hf := (if_neg hc5).symm.trans hf
        refine lv_tableOut (tgt := 76) hx hb dX0_neighbour_11 (by have := lv_neT (a := 0) hc1 rfl; have := lv_neT (a := 1) hc3 rfl; have := lv_neT (a := 2) hc5 rfl; omega) (by decide) ?_
        refine lv_iload_n hx hb dX0_neighbour_76 rfl (lv_at hl 0 rfl) ?_
        refine lv_if_le (tgt := 86) hx hb dX0_neighbour_77 (by decide) (fun hc7 => ?_) (fun hc7 => ?_)
        · have hf := (if_pos hc7).symm.trans hf
          refine lv_iconst (v := (-1 : Int32)) hx hb dX0_neighbour_86 (by decide) ?_
          have hres : (-1 : Int32) = res := (Option.some.inj hf)
          exact W.iret (v := (-1 : Int32)) hx hb hr (fun t ht hW => ⟨congrArg (fun z => Outcome.returned (some (Value.int z))) hres, trivial, ht⟩) t_nil dX0_neighbour_87
        · have hf := (if_neg hc7).symm.trans hf
          refine lv_iload_n hx hb dX0_neighbour_80 rfl (lv_at hl 2 rfl) ?_
          refine lv_iconst (v := (1 : Int32)) hx hb dX0_neighbour_81 (by decide) ?_
          refine lv_isub hx hb dX0_neighbour_82 ?_
          refine lv_goto (tgt := 87) hx hb dX0_neighbour_83 (by decide) ?_
          have hres : (a0 - (1 : Int32)) = res := (Option.some.inj hf)
          exact W.iret (v := (a0 - (1 : Int32))) hx hb hr (fun t ht hW => ⟨congrArg (fun z => Outcome.returned (some (Value.int z))) hres, trivial, ht⟩) t_nil dX0_neighbour_87
set_option maxHeartbeats 4000000 in
set_option maxRecDepth 100000 in
theorem ct_X2_toward (l : Launch) (n : Nat) (g : GC) (σ : CS) (k : Nat) (hk : k < 3) (f_paths : Nat → Int32) (f_water : Int64) (f_wall : Int64) (f_kind : Nat → Int32) (f_place : Nat → Int32) (f_facing : Nat → Int32) (f_age : Nat → Int32) (f_seeds : Int32) (f_season : Int32) (f_z : Int32) (f_spots : Nat → Int32) (he : σ.1 k = (f_paths, f_water, f_wall, f_kind, f_place, f_facing, f_age, f_seeds, f_season, f_z, f_spots)) (j : Nat) (hj : j < 8) (a1 : Int32) (res : Int32) (hf : fX2_toward n j a1 f_place f_facing = some res) : Met l yX2_toward wsX2_toward ({ frames := 1, cells := 0, slots := 0, locals := 23 }) (va_Pc [.ref (ga g (25 + 8 * k + j)), .int a1] (cI g σ)) (qS (some (.int res)) True) 0 0 (fun _ => False) := by
  refine Met.ofW (cc := cX2_toward) (maxL := 5) (ret := (some .int)) (by decide) rfl ?_
  intro p e s m args below meth c s₁ B hml hv
  obtain ⟨rfl, hI⟩ := hv
  have hx := B.exec
  have hb := B.bytes
  have hr := B.returns
  have hts := atoms_spec (ws := wsX2_toward) B.pre
  have hown : s.vm.findClass RX2 = some m.cls := findClass_of_methodNamed B.named
  have hlocks := B.notSynchronized
  have hP := hI.1
  have hB := hI.2
  have hK := hB.1
  have hNW := hB.2.1
  have hS : va_S (gA g) s.heap s.heap [] := va_S.rf
  have iwX3 : ∀ w ∈ wsX30, w ∈ wsX2_toward := fun w h => List.mem_cons_of_mem _ (List.mem_append_right _ h)
  have hl := lv_entry ([.ref (ga g (25 + 8 * k + j)), .int a1]) (n := 5) (Nat.le_of_ble_eq_true rfl)
  rw [lg_entry_eq]
  generalize (lg_sl ([.ref (ga g (25 + 8 * k + j)), .int a1]) ++ List.replicate (5 - (lg_sl ([.ref (ga g (25 + 8 * k + j)), .int a1])).length) Slot.unset).toArray = ls at hl ⊢
  have hl : lv_has ls 5 [(0, .ref (ga g (25 + 8 * k + j))), (1, .int a1)] := hl
  unfold fX2_toward at hf
  refine lv_iload_n hx hb dX2_toward_0 rfl (lv_at hl 1 rfl) ?_
  refine lv_if_ge (tgt := 9) hx hb dX2_toward_1 (by decide) (fun hc1 => ?_) (fun hc1 => ?_)
  · have hf := (if_pos hc1).symm.trans hf
    refine lv_aload_n hx hb dX2_toward_9 rfl (lv_at hl 0 rfl) ?_
    refine va_getN (D := g.1) (ci := 1) (v := .int (f_place j)) (C := RX3) (T := TX3) (N := 4) hx hb hts iwX3 hown hK hP (25 + 8 * k + j) (e_sd hk hj he (Q := (f_paths, f_water, f_wall, f_kind, f_place, f_facing, f_age, f_seeds, f_season, f_z, f_spots))) rfl 1 (by decide) (nf_X2_68 hNW) (fun _ h9 => h9) rfl dX2_toward_10 ?_
    refine lv_iload_n hx hb dX2_toward_13 rfl (lv_at hl 1 rfl) ?_
    obtain ⟨q2, hq2, hf⟩ := bd_some hf
    refine kr_S (st1 := [.int q2]) (va_runS (As := [.int (f_place j), .int a1]) (rest := []) ⟨hx, hb, hml, hown, hts⟩ (ct_X0_distance l n (f_place j) a1 q2 hq2) (va_cwS 2 hts gX2_toward_X0_distance rfl rfl rfl hn_X0_distance ⟨Nat.le_of_ble_eq_true rfl, Nat.le_of_ble_eq_true rfl⟩) ⟨bl_N, pr_N rfl hNW⟩ rfl rfl hl.1 rfl (lv_room (Nat.le_of_ble_eq_true rfl)) dX2_toward_14 ⟨Nat.le_refl _, Nat.le_refl _⟩) rfl (fun hn3 => ?_)
    refine lv_istore_n (lv' := [(2, .int q2), (0, .ref (ga g (25 + 8 * k + j))), (1, .int a1)]) hx hb dX2_toward_17 rfl hl (by decide) rfl (fun ls hl => ?_)
    refine lv_iconst (v := (0 : Int32)) hx hb dX2_toward_18 (by decide) ?_
    refine lv_istore_n (lv' := [(3, .int (0 : Int32)), (2, .int q2), (0, .ref (ga g (25 + 8 * k + j))), (1, .int a1)]) hx hb dX2_toward_19 rfl hl (by decide) rfl (fun ls hl => ?_)
    refine lp_run hf (fun s4 => ∀ (ls : Array Slot), lv_has ls 5 [(0, .ref (ga g (25 + 8 * k + j))), (1, .int a1), (2, .int q2), (3, .int s4)] → W p l e (headSpec wsX2_toward ({ frames := 1, cells := 0, slots := 0, locals := 23 })).room s m ([.ref (ga g (25 + 8 * k + j)), .int a1] : List Value).toArray below meth c s.heap [] 0 0 (MQ below (qS (some (.int res)) True) ([.ref (ga g (25 + 8 * k + j)), .int a1] : List Value).toArray s 0 0 (fun _ => False)) (F0 m 20 ls [])) (fun v => Sum.elim (fun v5 => ∀ (ls : Array Slot), lv_has ls 5 [(0, .ref (ga g (25 + 8 * k + j)))] → W p l e (headSpec wsX2_toward ({ frames := 1, cells := 0, slots := 0, locals := 23 })).room s m ([.ref (ga g (25 + 8 * k + j)), .int a1] : List Value).toArray below meth c s.heap [] 0 0 (MQ below (qS (some (.int res)) True) ([.ref (ga g (25 + 8 * k + j)), .int a1] : List Value).toArray s 0 0 (fun _ => False)) (F0 m 58 ls [])) (fun x => x = res) v) ?_ ?_ _ (lv_sub hl [2, 3, 1, 0] rfl)
    · intro v5 hf
      rcases v5 with v5 | v5
      · have hf := el_l hf
        intro ls hl
        refine lv_aload_n hx hb dX2_toward_58 rfl (lv_at hl 0 rfl) ?_
        refine va_getN (D := g.1) (ci := 1) (v := .int (f_facing j)) (C := RX3) (T := TX3) (N := 4) hx hb hts iwX3 hown hK hP (25 + 8 * k + j) (e_sd hk hj he (Q := (f_paths, f_water, f_wall, f_kind, f_place, f_facing, f_age, f_seeds, f_season, f_z, f_spots))) rfl 2 (by decide) (nf_X2_71 hNW) (fun _ h9 => h9) rfl dX2_toward_59 ?_
        have hres : (f_facing j) = res := (Option.some.inj hf)
        exact W.iret (v := (f_facing j)) hx hb hr (fun t ht hW => ⟨congrArg (fun z => Outcome.returned (some (Value.int z))) hres, trivial, ht⟩) t_nil dX2_toward_62
      · exact Option.some.inj hf
    · intro s4 r1 hf hback1 hexit1 ls hl
      refine lv_iload_n hx hb dX2_toward_20 rfl (lv_at hl 3 rfl) ?_
      refine lv_iconst (v := (4 : Int32)) hx hb dX2_toward_21 (by decide) ?_
      refine lv_icmp_ge (tgt := 58) hx hb dX2_toward_22 (by decide) (fun hc6 => ?_) (fun hc6 => ?_)
      · have hf := (if_pos hc6).symm.trans hf
        exact hexit1 (.inl s4) (Option.some.inj hf).symm ls (lv_sub hl [0] rfl)
      · have hf := (if_neg hc6).symm.trans hf
        refine lv_aload_n hx hb dX2_toward_25 rfl (lv_at hl 0 rfl) ?_
        refine va_getN (D := g.1) (ci := 1) (v := .int (f_place j)) (C := RX3) (T := TX3) (N := 4) hx hb hts iwX3 hown hK hP (25 + 8 * k + j) (e_sd hk hj he (Q := (f_paths, f_water, f_wall, f_kind, f_place, f_facing, f_age, f_seeds, f_season, f_z, f_spots))) rfl 1 (by decide) (nf_X2_68 hNW) (fun _ h9 => h9) rfl dX2_toward_26 ?_
        refine lv_iload_n hx hb dX2_toward_29 rfl (lv_at hl 3 rfl) ?_
        obtain ⟨q7, hq7, hf⟩ := bd_some hf
        refine kr_S (st1 := [.int q7]) (va_runS (As := [.int (f_place j), .int s4]) (rest := []) ⟨hx, hb, hml, hown, hts⟩ (ct_X0_neighbour l n (f_place j) s4 q7 hq7) (va_cwS 2 hts gX2_toward_X0_neighbour rfl rfl rfl hn_X0_neighbour ⟨Nat.le_of_ble_eq_true rfl, Nat.le_of_ble_eq_true rfl⟩) ⟨bl_N, pr_N rfl hNW⟩ rfl rfl hl.1 rfl (lv_room (Nat.le_of_ble_eq_true rfl)) dX2_toward_30 ⟨Nat.le_refl _, Nat.le_refl _⟩) rfl (fun hn8 => ?_)
        refine lv_istore (lv' := [(4, .int q7), (0, .ref (ga g (25 + 8 * k + j))), (1, .int a1), (2, .int q2), (3, .int s4)]) hx hb dX2_toward_33 hl (by decide) rfl (fun ls hl => ?_)
        refine lv_iload hx hb dX2_toward_35 (lv_at hl 0 rfl) ?_
        refine lv_if_lt (tgt := 52) hx hb dX2_toward_37 (by decide) (fun hc9 => ?_) (fun hc9 => ?_)
        · have hf := (if_pos hc9).symm.trans hf
          refine lv_iinc (v := (s4 + (1 : Int32))) (lv' := [(3, .int (s4 + (1 : Int32))), (4, .int q7), (0, .ref (ga g (25 + 8 * k + j))), (1, .int a1), (2, .int q2)]) hx hb dX2_toward_52 hl (k := 4) rfl (congrArg (fun y => s4 + y) (by decide : Int32.ofInt (1) = (1 : Int32))) (by decide) rfl (fun ls hl => ?_)
          refine lv_goto (tgt := 20) hx hb dX2_toward_55 (by decide) ?_
          exact hback1 _ (Option.some.inj hf).symm ls (lv_sub hl [2, 3, 4, 0] rfl)
        · have hf := (if_neg hc9).symm.trans hf
          refine lv_iload hx hb dX2_toward_40 (lv_at hl 0 rfl) ?_
          refine lv_iload_n hx hb dX2_toward_42 rfl (lv_at hl 2 rfl) ?_
          obtain ⟨q10, hq10, hf⟩ := bd_some hf
          refine kr_S (st1 := [.int q10]) (va_runS (As := [.int q7, .int a1]) (rest := []) ⟨hx, hb, hml, hown, hts⟩ (ct_X0_distance l n q7 a1 q10 hq10) (va_cwS 2 hts gX2_toward_X0_distance rfl rfl rfl hn_X0_distance ⟨Nat.le_of_ble_eq_true rfl, Nat.le_of_ble_eq_true rfl⟩) ⟨bl_N, pr_N rfl hNW⟩ rfl rfl hl.1 rfl (lv_room (Nat.le_of_ble_eq_true rfl)) dX2_toward_43 ⟨Nat.le_refl _, Nat.le_refl _⟩) rfl (fun hn11 => ?_)
          refine lv_iload_n hx hb dX2_toward_46 rfl (lv_at hl 3 rfl) ?_
          refine lv_icmp_ge (tgt := 52) hx hb dX2_toward_47 (by decide) (fun hc12 => ?_) (fun hc12 => ?_)
          · have hf := (if_pos hc12).symm.trans hf
            refine lv_iinc (v := (s4 + (1 : Int32))) (lv' := [(3, .int (s4 + (1 : Int32))), (4, .int q7), (0, .ref (ga g (25 + 8 * k + j))), (1, .int a1), (2, .int q2)]) hx hb dX2_toward_52 hl (k := 4) rfl (congrArg (fun y => s4 + y) (by decide : Int32.ofInt (1) = (1 : Int32))) (by decide) rfl (fun ls hl => ?_)
            refine lv_goto (tgt := 20) hx hb dX2_toward_55 (by decide) ?_
            exact hback1 _ (Option.some.inj hf).symm ls (lv_sub hl [2, 3, 4, 0] rfl)
          · have hf := (if_neg hc12).symm.trans hf
            refine lv_iload_n hx hb dX2_toward_50 rfl (lv_at hl 4 rfl) ?_
            have hres : s4 = res := (hexit1 _ ((Option.some.inj hf)).symm)
            exact W.iret (v := s4) hx hb hr (fun t ht hW => ⟨congrArg (fun z => Outcome.returned (some (Value.int z))) hres, trivial, ht⟩) t_nil dX2_toward_51
  · have hf := (if_neg hc1).symm.trans hf
    refine lv_aload_n hx hb dX2_toward_4 rfl (lv_at hl 0 rfl) ?_
    refine va_getN (D := g.1) (ci := 1) (v := .int (f_facing j)) (C := RX3) (T := TX3) (N := 4) hx hb hts iwX3 hown hK hP (25 + 8 * k + j) (e_sd hk hj he (Q := (f_paths, f_water, f_wall, f_kind, f_place, f_facing, f_age, f_seeds, f_season, f_z, f_spots))) rfl 2 (by decide) (nf_X2_71 hNW) (fun _ h9 => h9) rfl dX2_toward_5 ?_
    have hres : (f_facing j) = res := (Option.some.inj hf)
    exact W.iret (v := (f_facing j)) hx hb hr (fun t ht hW => ⟨congrArg (fun z => Outcome.returned (some (Value.int z))) hres, trivial, ht⟩) t_nil dX2_toward_8
set_option maxHeartbeats 4000000 in
set_option maxRecDepth 100000 in
theorem ct_X3_isAlive (l : Launch) (n : Nat) (g : GC) (σ : CS) (k : Nat) (hk : k < 3) (f_paths : Nat → Int32) (f_water : Int64) (f_wall : Int64) (f_kind : Nat → Int32) (f_place : Nat → Int32) (f_facing : Nat → Int32) (f_age : Nat → Int32) (f_seeds : Int32) (f_season : Int32) (f_z : Int32) (f_spots : Nat → Int32) (he : σ.1 k = (f_paths, f_water, f_wall, f_kind, f_place, f_facing, f_age, f_seeds, f_season, f_z, f_spots)) (j : Nat) (hj : j < 8) (res : Int32) (hf : fX3_isAlive n j f_kind f_age = some res) : Met l yX3_isAlive wsX3_isAlive ({ frames := 1, cells := 0, slots := 0, locals := 20 }) (va_Pc [.ref (ga g (25 + 8 * k + j))] (cI g σ)) (qS (some (.int res)) (narrow .boolean (.int res) = .int res)) 0 0 (fun _ => False) := by
  refine Met.ofW (cc := cX3_isAlive) (maxL := 1) (ret := (some .boolean)) (by decide) rfl ?_
  intro p e s m args below meth c s₁ B hml hv
  obtain ⟨rfl, hI⟩ := hv
  have hx := B.exec
  have hb := B.bytes
  have hr := B.returns
  have hts := atoms_spec (ws := wsX3_isAlive) B.pre
  have hown : s.vm.findClass RX3 = some m.cls := findClass_of_methodNamed B.named
  have hlocks := B.notSynchronized
  have hP := hI.1
  have hB := hI.2
  have hK := hB.1
  have hNW := hB.2.1
  have hS : va_S (gA g) s.heap s.heap [] := va_S.rf
  have hw0 := hts (.fieldLink RX3 21 "SownPaths$Seed" "age" "I") (by decide +kernel)
  have iwX3 : ∀ w ∈ wsX30, w ∈ wsX3_isAlive := fun w h => List.mem_cons_of_mem _ (List.mem_append_right _ h)
  have hl := lv_entry ([.ref (ga g (25 + 8 * k + j))]) (n := 1) (Nat.le_of_ble_eq_true rfl)
  rw [lg_entry_eq]
  generalize (lg_sl ([.ref (ga g (25 + 8 * k + j))]) ++ List.replicate (1 - (lg_sl ([.ref (ga g (25 + 8 * k + j))])).length) Slot.unset).toArray = ls at hl ⊢
  have hl : lv_has ls 1 [(0, .ref (ga g (25 + 8 * k + j)))] := hl
  unfold fX3_isAlive at hf
  refine lv_aload_n hx hb dX3_isAlive_0 rfl (lv_at hl 0 rfl) ?_
  refine va_get (D := g.1) (ci := 1) (v := .int (f_age j)) (C := RX3) (T := TX3) (N := 4) hx hb hts iwX3 hown hK hP (25 + 8 * k + j) (e_sd hk hj he (Q := (f_paths, f_water, f_wall, f_kind, f_place, f_facing, f_age, f_seeds, f_season, f_z, f_spots))) rfl 3 (by decide) hw0 (fun _ h9 => h9) rfl dX3_isAlive_1 ?_
  refine lv_aload_n hx hb dX3_isAlive_4 rfl (lv_at hl 0 rfl) ?_
  obtain ⟨q1, hq1, hf⟩ := bd_some hf
  refine kr_S (st1 := [.int q1, .int (f_age j)]) (va_runV (As := []) (rest := [.int (f_age j)]) ⟨hx, hb, hml, hown, hts⟩ (ct_X3_lives l n g σ k hk f_paths f_water f_wall f_kind f_place f_facing f_age f_seeds f_season f_z f_spots he j hj q1 hq1) (cwV 0 hts gX3_isAlive_X3_lives rfl rfl rfl hd_X3_lives ⟨Nat.le_of_ble_eq_true rfl, Nat.le_of_ble_eq_true rfl⟩) ⟨bl_C, va_recv hK hP (ci := 1) (q0 := (25 + 8 * k + j)) rfl (e_sd hk hj he (Q := (f_paths, f_water, f_wall, f_kind, f_place, f_facing, f_age, f_seeds, f_season, f_z, f_spots))), pr_C rfl hB hP hS⟩ rfl rfl hl.1 rfl (lv_room (Nat.le_of_ble_eq_true rfl)) dX3_isAlive_5 ⟨Nat.le_refl _, Nat.le_refl _⟩) rfl (fun hn2 => ?_)
  refine lv_icmp_ge (tgt := 15) hx hb dX3_isAlive_8 (by decide) (fun hc3 => ?_) (fun hc3 => ?_)
  · have hf := (if_pos hc3).symm.trans hf
    refine lv_iconst (v := (0 : Int32)) hx hb dX3_isAlive_15 (by decide) ?_
    have hres : (0 : Int32) = res := (Option.some.inj hf)
    have hnr : narrow .boolean (.int (0 : Int32)) = .int (0 : Int32) := rfl
    exact W.zret (v := (0 : Int32)) hx hb hr hnr (fun t ht hW => ⟨congrArg (fun z => Outcome.returned (some (Value.int z))) hres, Eq.mp (congrArg (fun z => narrow .boolean (.int z) = .int z) hres) hnr, ht⟩) t_nil dX3_isAlive_16
  · have hf := (if_neg hc3).symm.trans hf
    refine lv_iconst (v := (1 : Int32)) hx hb dX3_isAlive_11 (by decide) ?_
    refine lv_goto (tgt := 16) hx hb dX3_isAlive_12 (by decide) ?_
    have hres : (1 : Int32) = res := (Option.some.inj hf)
    have hnr : narrow .boolean (.int (1 : Int32)) = .int (1 : Int32) := rfl
    exact W.zret (v := (1 : Int32)) hx hb hr hnr (fun t ht hW => ⟨congrArg (fun z => Outcome.returned (some (Value.int z))) hres, Eq.mp (congrArg (fun z => narrow .boolean (.int z) = .int z) hres) hnr, ht⟩) t_nil dX3_isAlive_16
set_option maxHeartbeats 4000000 in
set_option maxRecDepth 100000 in
theorem ct_X2_nearestCompany (l : Launch) (n : Nat) (g : GC) (σ : CS) (k : Nat) (hk : k < 3) (f_paths : Nat → Int32) (f_water : Int64) (f_wall : Int64) (f_kind : Nat → Int32) (f_place : Nat → Int32) (f_facing : Nat → Int32) (f_age : Nat → Int32) (f_seeds : Int32) (f_season : Int32) (f_z : Int32) (f_spots : Nat → Int32) (he : σ.1 k = (f_paths, f_water, f_wall, f_kind, f_place, f_facing, f_age, f_seeds, f_season, f_z, f_spots)) (j : Nat) (hj : j < 8) (res : Int32) (hf : fX2_nearestCompany n j f_water f_kind f_place f_age f_seeds = some res) : Met l yX2_nearestCompany wsX2_nearestCompany ({ frames := 2, cells := 0, slots := 0, locals := 47 }) (va_Pc [.ref (ga g (1 + k)), .ref (ga g (25 + 8 * k + j))] (cI g σ)) (qS (some (.int res)) True) 0 0 (fun _ => False) := by
  refine Met.ofW (cc := cX2_nearestCompany) (maxL := 6) (ret := (some .int)) (by decide) rfl ?_
  intro p e s m args below meth c s₁ B hml hv
  obtain ⟨rfl, hI⟩ := hv
  have hx := B.exec
  have hb := B.bytes
  have hr := B.returns
  have hts := atoms_spec (ws := wsX2_nearestCompany) B.pre
  have hown : s.vm.findClass RX2 = some m.cls := findClass_of_methodNamed B.named
  have hlocks := B.notSynchronized
  have hP := hI.1
  have hB := hI.2
  have hK := hB.1
  have hNW := hB.2.1
  have hS : va_S (gA g) s.heap s.heap [] := va_S.rf
  have hw0 := hts (.fieldLink RX2 48 "SownPaths$Park" "seeds" "I") (by decide +kernel)
  have iwX2 : ∀ w ∈ wsX20, w ∈ wsX2_nearestCompany := fun w h => List.mem_cons_of_mem _ (List.mem_append_left _ (List.mem_append_right _ h))
  have iwX3 : ∀ w ∈ wsX30, w ∈ wsX2_nearestCompany := fun w h => List.mem_cons_of_mem _ (List.mem_append_right _ h)
  have hl := lv_entry ([.ref (ga g (1 + k)), .ref (ga g (25 + 8 * k + j))]) (n := 6) (Nat.le_of_ble_eq_true rfl)
  rw [lg_entry_eq]
  generalize (lg_sl ([.ref (ga g (1 + k)), .ref (ga g (25 + 8 * k + j))]) ++ List.replicate (6 - (lg_sl ([.ref (ga g (1 + k)), .ref (ga g (25 + 8 * k + j))])).length) Slot.unset).toArray = ls at hl ⊢
  have hl : lv_has ls 6 [(0, .ref (ga g (1 + k))), (1, .ref (ga g (25 + 8 * k + j)))] := hl
  unfold fX2_nearestCompany at hf
  refine lv_iconst (v := (-1 : Int32)) hx hb dX2_nearestCompany_0 (by decide) ?_
  refine lv_istore_n (lv' := [(2, .int (-1 : Int32)), (0, .ref (ga g (1 + k))), (1, .ref (ga g (25 + 8 * k + j)))]) hx hb dX2_nearestCompany_1 rfl hl (by decide) rfl (fun ls hl => ?_)
  refine lv_bipush (v := (36 : Int32)) hx hb dX2_nearestCompany_2 (by decide) ?_
  refine lv_istore_n (lv' := [(3, .int (36 : Int32)), (2, .int (-1 : Int32)), (0, .ref (ga g (1 + k))), (1, .ref (ga g (25 + 8 * k + j)))]) hx hb dX2_nearestCompany_4 rfl hl (by decide) rfl (fun ls hl => ?_)
  refine lv_iconst (v := (0 : Int32)) hx hb dX2_nearestCompany_5 (by decide) ?_
  refine lv_istore (lv' := [(4, .int (0 : Int32)), (3, .int (36 : Int32)), (2, .int (-1 : Int32)), (0, .ref (ga g (1 + k))), (1, .ref (ga g (25 + 8 * k + j)))]) hx hb dX2_nearestCompany_6 hl (by decide) rfl (fun ls hl => ?_)
  refine lp_run hf (fun s1 => ∀ (ls : Array Slot), lv_has ls 6 [(0, .ref (ga g (1 + k))), (1, .ref (ga g (25 + 8 * k + j))), (2, .int s1.1), (3, .int s1.2.1), (4, .int s1.2.2)] → W p l e (headSpec wsX2_nearestCompany ({ frames := 2, cells := 0, slots := 0, locals := 47 })).room s m ([.ref (ga g (1 + k)), .ref (ga g (25 + 8 * k + j))] : List Value).toArray below meth c s.heap [] 0 0 (MQ below (qS (some (.int res)) True) ([.ref (ga g (1 + k)), .ref (ga g (25 + 8 * k + j))] : List Value).toArray s 0 0 (fun _ => False)) (F0 m 8 ls [])) (fun v2 => ∀ (ls : Array Slot), lv_has ls 6 [(0, .ref (ga g (1 + k))), (1, .ref (ga g (25 + 8 * k + j))), (2, .int v2.1)] → W p l e (headSpec wsX2_nearestCompany ({ frames := 2, cells := 0, slots := 0, locals := 47 })).room s m ([.ref (ga g (1 + k)), .ref (ga g (25 + 8 * k + j))] : List Value).toArray below meth c s.heap [] 0 0 (MQ below (qS (some (.int res)) True) ([.ref (ga g (1 + k)), .ref (ga g (25 + 8 * k + j))] : List Value).toArray s 0 0 (fun _ => False)) (F0 m 91 ls [])) ?_ ?_ _ (lv_sub hl [3, 4, 2, 1, 0] rfl)
  · intro v2 hf ls hl
    refine lv_iload_n hx hb dX2_nearestCompany_91 rfl (lv_at hl 2 rfl) ?_
    refine lv_if_ge (tgt := 103) hx hb dX2_nearestCompany_92 (by decide) (fun hc17 => ?_) (fun hc17 => ?_)
    · have hf := (if_pos hc17).symm.trans hf
      refine lv_iload_n hx hb dX2_nearestCompany_103 rfl (lv_at hl 2 rfl) ?_
      have hres : v2.1 = res := (Option.some.inj hf)
      exact W.iret (v := v2.1) hx hb hr (fun t ht hW => ⟨congrArg (fun z => Outcome.returned (some (Value.int z))) hres, trivial, ht⟩) t_nil dX2_nearestCompany_104
    · have hf := (if_neg hc17).symm.trans hf
      refine lv_aload_n hx hb dX2_nearestCompany_95 rfl (lv_at hl 0 rfl) ?_
      refine lv_aload_n hx hb dX2_nearestCompany_96 rfl (lv_at hl 1 rfl) ?_
      obtain ⟨q18, hq18, hf⟩ := bd_some hf
      refine kr_S (st1 := [.int q18]) (va_runV (As := [.ref (ga g (25 + 8 * k + j))]) (rest := []) ⟨hx, hb, hml, hown, hts⟩ (ct_X2_nearestWater l n g σ k hk f_paths f_water f_wall f_kind f_place f_facing f_age f_seeds f_season f_z f_spots he j hj q18 hq18) (cwV 1 hts gX2_nearestCompany_X2_nearestWater rfl rfl rfl hd_X2_nearestWater ⟨Nat.le_of_ble_eq_true rfl, Nat.le_of_ble_eq_true rfl⟩) ⟨bl_C, va_recv hK hP (ci := 0) (q0 := (1 + k)) rfl (e_pk hk he (Q := (f_paths, f_water, f_wall, f_kind, f_place, f_facing, f_age, f_seeds, f_season, f_z, f_spots))), pr_C rfl hB hP hS⟩ rfl rfl hl.1 rfl (lv_room (Nat.le_of_ble_eq_true rfl)) dX2_nearestCompany_97 ⟨Nat.le_refl _, Nat.le_refl _⟩) rfl (fun hn19 => ?_)
      refine lv_goto (tgt := 104) hx hb dX2_nearestCompany_100 (by decide) ?_
      have hres : q18 = res := (Option.some.inj hf)
      exact W.iret (v := q18) hx hb hr (fun t ht hW => ⟨congrArg (fun z => Outcome.returned (some (Value.int z))) hres, trivial, ht⟩) t_nil dX2_nearestCompany_104
  · intro s1 r1 hf hback1 hexit1 ls hl
    refine lv_iload hx hb dX2_nearestCompany_8 (lv_at hl 4 rfl) ?_
    refine lv_aload_n hx hb dX2_nearestCompany_10 rfl (lv_at hl 0 rfl) ?_
    refine va_get (D := g.1) (ci := 0) (v := .int f_seeds) (C := RX2) (T := TX2) (N := 8) hx hb hts iwX2 hown hK hP (1 + k) (e_pk hk he (Q := (f_paths, f_water, f_wall, f_kind, f_place, f_facing, f_age, f_seeds, f_season, f_z, f_spots))) rfl 4 (by decide) hw0 (fun _ h9 => h9) rfl dX2_nearestCompany_11 ?_
    refine lv_icmp_ge (tgt := 91) hx hb dX2_nearestCompany_14 (by decide) (fun hc3 => ?_) (fun hc3 => ?_)
    · have hf := (if_pos hc3).symm.trans hf
      exact hexit1 (s1.1, s1.2.1, s1.2.2) (Option.some.inj hf).symm ls (lv_sub hl [0, 1, 2] rfl)
    · have hf := (if_neg hc3).symm.trans hf
      refine lv_aload_n hx hb dX2_nearestCompany_17 rfl (lv_at hl 0 rfl) ?_
      refine lv_iload hx hb dX2_nearestCompany_18 (lv_at hl 4 rfl) ?_
      obtain ⟨q4, hq4, hf⟩ := bd_some hf
      refine kr_S (st1 := [va_rf (Option.map (fun j => ga g (25 + 8 * k + j)) q4)]) (va_runV (As := [.int s1.2.2]) (rest := []) ⟨hx, hb, hml, hown, hts⟩ (ct_X2_seedAt l n g σ k hk f_paths f_water f_wall f_kind f_place f_facing f_age f_seeds f_season f_z f_spots he s1.2.2 q4 hq4) (cwV 1 hts gX2_nearestCompany_X2_seedAt rfl rfl rfl hd_X2_seedAt ⟨Nat.le_of_ble_eq_true rfl, Nat.le_of_ble_eq_true rfl⟩) ⟨bl_C, va_recv hK hP (ci := 0) (q0 := (1 + k)) rfl (e_pk hk he (Q := (f_paths, f_water, f_wall, f_kind, f_place, f_facing, f_age, f_seeds, f_season, f_z, f_spots))), pr_C rfl hB hP hS⟩ rfl rfl hl.1 rfl (lv_room (Nat.le_of_ble_eq_true rfl)) dX2_nearestCompany_20 ⟨Nat.le_refl _, Nat.le_refl _⟩) rfl (fun hn5 => ?_)
      rcases q4 with _ | j6
      · have hf := eo_n hf
        refine W.eq (g2 := F0 m 23 ls [.null]) rfl ?_
        refine lv_astoreN (lv' := [(5, .null), (0, .ref (ga g (1 + k))), (1, .ref (ga g (25 + 8 * k + j))), (2, .int s1.1), (3, .int s1.2.1), (4, .int s1.2.2)]) hx hb dX2_nearestCompany_23 hl (by decide) rfl (fun ls hl => ?_)
        refine lv_aloadN hx hb dX2_nearestCompany_25 (lv_at hl 0 rfl) ?_
        refine lv_ifnullN (tgt := 85) hx hb dX2_nearestCompany_27 (by decide) ?_
        refine lv_iinc (v := (s1.2.2 + (1 : Int32))) (lv' := [(4, .int (s1.2.2 + (1 : Int32))), (5, .null), (0, .ref (ga g (1 + k))), (1, .ref (ga g (25 + 8 * k + j))), (2, .int s1.1), (3, .int s1.2.1)]) hx hb dX2_nearestCompany_85 hl (k := 5) rfl (congrArg (fun y => s1.2.2 + y) (by decide : Int32.ofInt (1) = (1 : Int32))) (by decide) rfl (fun ls hl => ?_)
        refine lv_goto (tgt := 8) hx hb dX2_nearestCompany_88 (by decide) ?_
        exact hback1 _ (Option.some.inj hf).symm ls (lv_sub hl [2, 3, 4, 5, 0] rfl)
      · have hf := eo_s hf
        have hj7 := hn5 _ rfl
        refine W.eq (g2 := F0 m 23 ls [.ref (ga g (25 + 8 * k + j6))]) rfl ?_
        refine lv_astore (lv' := [(5, .ref (ga g (25 + 8 * k + j6))), (0, .ref (ga g (1 + k))), (1, .ref (ga g (25 + 8 * k + j))), (2, .int s1.1), (3, .int s1.2.1), (4, .int s1.2.2)]) hx hb dX2_nearestCompany_23 hl (by decide) rfl (fun ls hl => ?_)
        refine lv_aload hx hb dX2_nearestCompany_25 (lv_at hl 0 rfl) ?_
        refine lv_ifnull hx hb dX2_nearestCompany_27 ?_
        refine lv_aload hx hb dX2_nearestCompany_30 (lv_at hl 0 rfl) ?_
        refine va_getN (D := g.1) (ci := 1) (v := .int (f_place j6)) (C := RX3) (T := TX3) (N := 4) hx hb hts iwX3 hown hK hP (25 + 8 * k + j6) (e_sd hk hj7 he (Q := (f_paths, f_water, f_wall, f_kind, f_place, f_facing, f_age, f_seeds, f_season, f_z, f_spots))) rfl 1 (by decide) (nf_X2_68 hNW) (fun _ h9 => h9) rfl dX2_nearestCompany_32 ?_
        refine lv_aload_n hx hb dX2_nearestCompany_35 rfl (lv_at hl 2 rfl) ?_
        refine va_getN (D := g.1) (ci := 1) (v := .int (f_place j)) (C := RX3) (T := TX3) (N := 4) hx hb hts iwX3 hown hK hP (25 + 8 * k + j) (e_sd hk hj he (Q := (f_paths, f_water, f_wall, f_kind, f_place, f_facing, f_age, f_seeds, f_season, f_z, f_spots))) rfl 1 (by decide) (nf_X2_68 hNW) (fun _ h9 => h9) rfl dX2_nearestCompany_36 ?_
        refine lv_icmp_eq (tgt := 85) hx hb dX2_nearestCompany_39 (by decide) (fun hc8 => ?_) (fun hc8 => ?_)
        · have hf := (if_pos hc8).symm.trans hf
          refine lv_iinc (v := (s1.2.2 + (1 : Int32))) (lv' := [(4, .int (s1.2.2 + (1 : Int32))), (5, .ref (ga g (25 + 8 * k + j6))), (0, .ref (ga g (1 + k))), (1, .ref (ga g (25 + 8 * k + j))), (2, .int s1.1), (3, .int s1.2.1)]) hx hb dX2_nearestCompany_85 hl (k := 5) rfl (congrArg (fun y => s1.2.2 + y) (by decide : Int32.ofInt (1) = (1 : Int32))) (by decide) rfl (fun ls hl => ?_)
          refine lv_goto (tgt := 8) hx hb dX2_nearestCompany_88 (by decide) ?_
          exact hback1 _ (Option.some.inj hf).symm ls (lv_sub hl [2, 3, 4, 5, 0] rfl)
        · have hf := (if_neg hc8).symm.trans hf
          refine lv_aload hx hb dX2_nearestCompany_42 (lv_at hl 0 rfl) ?_
          obtain ⟨q9, hq9, hf⟩ := bd_some hf
          refine kr_S (st1 := [.int q9]) (va_runV (As := []) (rest := []) ⟨hx, hb, hml, hown, hts⟩ (ct_X3_isAlive l n g σ k hk f_paths f_water f_wall f_kind f_place f_facing f_age f_seeds f_season f_z f_spots he j6 hj7 q9 hq9) (cwV 0 hts gX2_nearestCompany_X3_isAlive rfl rfl rfl hd_X3_isAlive ⟨Nat.le_of_ble_eq_true rfl, Nat.le_of_ble_eq_true rfl⟩) ⟨bl_C, va_recv hK hP (ci := 1) (q0 := (25 + 8 * k + j6)) rfl (e_sd hk hj7 he (Q := (f_paths, f_water, f_wall, f_kind, f_place, f_facing, f_age, f_seeds, f_season, f_z, f_spots))), pr_C rfl hB hP hS⟩ rfl rfl hl.1 rfl (lv_room (Nat.le_of_ble_eq_true rfl)) dX2_nearestCompany_44 ⟨Nat.le_refl _, Nat.le_refl _⟩) rfl (fun hn10 => ?_)
          refine lv_if_eq (tgt := 85) hx hb dX2_nearestCompany_47 (by decide) (fun hc11 => ?_) (fun hc11 => ?_)
          · have hf := (if_pos hc11).symm.trans hf
            refine lv_iinc (v := (s1.2.2 + (1 : Int32))) (lv' := [(4, .int (s1.2.2 + (1 : Int32))), (5, .ref (ga g (25 + 8 * k + j6))), (0, .ref (ga g (1 + k))), (1, .ref (ga g (25 + 8 * k + j))), (2, .int s1.1), (3, .int s1.2.1)]) hx hb dX2_nearestCompany_85 hl (k := 5) rfl (congrArg (fun y => s1.2.2 + y) (by decide : Int32.ofInt (1) = (1 : Int32))) (by decide) rfl (fun ls hl => ?_)
            refine lv_goto (tgt := 8) hx hb dX2_nearestCompany_88 (by decide) ?_
            exact hback1 _ (Option.some.inj hf).symm ls (lv_sub hl [2, 3, 4, 5, 0] rfl)
          · have hf := (if_neg hc11).symm.trans hf
            refine lv_aload_n hx hb dX2_nearestCompany_50 rfl (lv_at hl 2 rfl) ?_
            refine va_getN (D := g.1) (ci := 1) (v := .int (f_place j)) (C := RX3) (T := TX3) (N := 4) hx hb hts iwX3 hown hK hP (25 + 8 * k + j) (e_sd hk hj he (Q := (f_paths, f_water, f_wall, f_kind, f_place, f_facing, f_age, f_seeds, f_season, f_z, f_spots))) rfl 1 (by decide) (nf_X2_68 hNW) (fun _ h9 => h9) rfl dX2_nearestCompany_51 ?_
            refine lv_aload hx hb dX2_nearestCompany_54 (lv_at hl 0 rfl) ?_
            refine va_getN (D := g.1) (ci := 1) (v := .int (f_place j6)) (C := RX3) (T := TX3) (N := 4) hx hb hts iwX3 hown hK hP (25 + 8 * k + j6) (e_sd hk hj7 he (Q := (f_paths, f_water, f_wall, f_kind, f_place, f_facing, f_age, f_seeds, f_season, f_z, f_spots))) rfl 1 (by decide) (nf_X2_68 hNW) (fun _ h9 => h9) rfl dX2_nearestCompany_56 ?_
            obtain ⟨q12, hq12, hf⟩ := bd_some hf
            refine kr_S (st1 := [.int q12]) (va_runS (As := [.int (f_place j), .int (f_place j6)]) (rest := []) ⟨hx, hb, hml, hown, hts⟩ (ct_X0_distance l n (f_place j) (f_place j6) q12 hq12) (va_cwS 2 hts gX2_nearestCompany_X0_distance rfl rfl rfl hn_X0_distance ⟨Nat.le_of_ble_eq_true rfl, Nat.le_of_ble_eq_true rfl⟩) ⟨bl_N, pr_N rfl hNW⟩ rfl rfl hl.1 rfl (lv_room (Nat.le_of_ble_eq_true rfl)) dX2_nearestCompany_59 ⟨Nat.le_refl _, Nat.le_refl _⟩) rfl (fun hn13 => ?_)
            refine lv_iload_n hx hb dX2_nearestCompany_62 rfl (lv_at hl 4 rfl) ?_
            refine lv_icmp_ge (tgt := 85) hx hb dX2_nearestCompany_63 (by decide) (fun hc14 => ?_) (fun hc14 => ?_)
            · have hf := (if_pos hc14).symm.trans hf
              refine lv_iinc (v := (s1.2.2 + (1 : Int32))) (lv' := [(4, .int (s1.2.2 + (1 : Int32))), (5, .ref (ga g (25 + 8 * k + j6))), (0, .ref (ga g (1 + k))), (1, .ref (ga g (25 + 8 * k + j))), (2, .int s1.1), (3, .int s1.2.1)]) hx hb dX2_nearestCompany_85 hl (k := 5) rfl (congrArg (fun y => s1.2.2 + y) (by decide : Int32.ofInt (1) = (1 : Int32))) (by decide) rfl (fun ls hl => ?_)
              refine lv_goto (tgt := 8) hx hb dX2_nearestCompany_88 (by decide) ?_
              exact hback1 _ (Option.some.inj hf).symm ls (lv_sub hl [2, 3, 4, 5, 0] rfl)
            · have hf := (if_neg hc14).symm.trans hf
              refine lv_aload_n hx hb dX2_nearestCompany_66 rfl (lv_at hl 2 rfl) ?_
              refine va_getN (D := g.1) (ci := 1) (v := .int (f_place j)) (C := RX3) (T := TX3) (N := 4) hx hb hts iwX3 hown hK hP (25 + 8 * k + j) (e_sd hk hj he (Q := (f_paths, f_water, f_wall, f_kind, f_place, f_facing, f_age, f_seeds, f_season, f_z, f_spots))) rfl 1 (by decide) (nf_X2_68 hNW) (fun _ h9 => h9) rfl dX2_nearestCompany_67 ?_
              refine lv_aload hx hb dX2_nearestCompany_70 (lv_at hl 0 rfl) ?_
              refine va_getN (D := g.1) (ci := 1) (v := .int (f_place j6)) (C := RX3) (T := TX3) (N := 4) hx hb hts iwX3 hown hK hP (25 + 8 * k + j6) (e_sd hk hj7 he (Q := (f_paths, f_water, f_wall, f_kind, f_place, f_facing, f_age, f_seeds, f_season, f_z, f_spots))) rfl 1 (by decide) (nf_X2_68 hNW) (fun _ h9 => h9) rfl dX2_nearestCompany_72 ?_
              obtain ⟨q15, hq15, hf⟩ := bd_some hf
              refine kr_S (st1 := [.int q15]) (va_runS (As := [.int (f_place j), .int (f_place j6)]) (rest := []) ⟨hx, hb, hml, hown, hts⟩ (ct_X0_distance l n (f_place j) (f_place j6) q15 hq15) (va_cwS 2 hts gX2_nearestCompany_X0_distance rfl rfl rfl hn_X0_distance ⟨Nat.le_of_ble_eq_true rfl, Nat.le_of_ble_eq_true rfl⟩) ⟨bl_N, pr_N rfl hNW⟩ rfl rfl hl.1 rfl (lv_room (Nat.le_of_ble_eq_true rfl)) dX2_nearestCompany_75 ⟨Nat.le_refl _, Nat.le_refl _⟩) rfl (fun hn16 => ?_)
              refine lv_istore_n (lv' := [(3, .int q15), (5, .ref (ga g (25 + 8 * k + j6))), (0, .ref (ga g (1 + k))), (1, .ref (ga g (25 + 8 * k + j))), (2, .int s1.1), (4, .int s1.2.2)]) hx hb dX2_nearestCompany_78 rfl hl (by decide) rfl (fun ls hl => ?_)
              refine lv_aload hx hb dX2_nearestCompany_79 (lv_at hl 1 rfl) ?_
              refine va_getN (D := g.1) (ci := 1) (v := .int (f_place j6)) (C := RX3) (T := TX3) (N := 4) hx hb hts iwX3 hown hK hP (25 + 8 * k + j6) (e_sd hk hj7 he (Q := (f_paths, f_water, f_wall, f_kind, f_place, f_facing, f_age, f_seeds, f_season, f_z, f_spots))) rfl 1 (by decide) (nf_X2_68 hNW) (fun _ h9 => h9) rfl dX2_nearestCompany_81 ?_
              refine lv_istore_n (lv' := [(2, .int (f_place j6)), (3, .int q15), (5, .ref (ga g (25 + 8 * k + j6))), (0, .ref (ga g (1 + k))), (1, .ref (ga g (25 + 8 * k + j))), (4, .int s1.2.2)]) hx hb dX2_nearestCompany_84 rfl hl (by decide) rfl (fun ls hl => ?_)
              refine lv_iinc (v := (s1.2.2 + (1 : Int32))) (lv' := [(4, .int (s1.2.2 + (1 : Int32))), (2, .int (f_place j6)), (3, .int q15), (5, .ref (ga g (25 + 8 * k + j6))), (0, .ref (ga g (1 + k))), (1, .ref (ga g (25 + 8 * k + j)))]) hx hb dX2_nearestCompany_85 hl (k := 5) rfl (congrArg (fun y => s1.2.2 + y) (by decide : Int32.ofInt (1) = (1 : Int32))) (by decide) rfl (fun ls hl => ?_)
              refine lv_goto (tgt := 8) hx hb dX2_nearestCompany_88 (by decide) ?_
              exact hback1 _ (Option.some.inj hf).symm ls (lv_sub hl [4, 5, 1, 2, 0] rfl)
set_option maxHeartbeats 4000000 in
set_option maxRecDepth 100000 in
theorem ct_X2_turnOf (l : Launch) (n : Nat) (g : GC) (σ : CS) (k : Nat) (hk : k < 3) (f_paths : Nat → Int32) (f_water : Int64) (f_wall : Int64) (f_kind : Nat → Int32) (f_place : Nat → Int32) (f_facing : Nat → Int32) (f_age : Nat → Int32) (f_seeds : Int32) (f_season : Int32) (f_z : Int32) (f_spots : Nat → Int32) (he : σ.1 k = (f_paths, f_water, f_wall, f_kind, f_place, f_facing, f_age, f_seeds, f_season, f_z, f_spots)) (j : Nat) (hj : j < 8) (res : Int32) (hf : fX2_turnOf n j f_water f_kind f_place f_facing f_age f_seeds f_season = some res) : Met l yX2_turnOf wsX2_turnOf ({ frames := 3, cells := 0, slots := 0, locals := 72 }) (va_Pc [.ref (ga g (1 + k)), .ref (ga g (25 + 8 * k + j))] (cI g σ)) (qS (some (.int res)) True) 0 0 (fun _ => False) := by
  refine Met.ofW (cc := cX2_turnOf) (maxL := 2) (ret := (some .int)) (by decide) rfl ?_
  intro p e s m args below meth c s₁ B hml hv
  obtain ⟨rfl, hI⟩ := hv
  have hx := B.exec
  have hb := B.bytes
  have hr := B.returns
  have hts := atoms_spec (ws := wsX2_turnOf) B.pre
  have hown : s.vm.findClass RX2 = some m.cls := findClass_of_methodNamed B.named
  have hlocks := B.notSynchronized
  have hP := hI.1
  have hB := hI.2
  have hK := hB.1
  have hNW := hB.2.1
  have hS : va_S (gA g) s.heap s.heap [] := va_S.rf
  have hw0 := hts (.fieldLink RX2 51 "SownPaths$Park" "season" "I") (by decide +kernel)
  have iwX2 : ∀ w ∈ wsX20, w ∈ wsX2_turnOf := fun w h => List.mem_cons_of_mem _ (List.mem_append_right _ h)
  have iwX3 : ∀ w ∈ wsX30, w ∈ wsX2_turnOf := fun w h => List.mem_cons_of_mem _ (List.mem_append_left _ (List.mem_append_right _ h))
  have hl := lv_entry ([.ref (ga g (1 + k)), .ref (ga g (25 + 8 * k + j))]) (n := 2) (Nat.le_of_ble_eq_true rfl)
  rw [lg_entry_eq]
  generalize (lg_sl ([.ref (ga g (1 + k)), .ref (ga g (25 + 8 * k + j))]) ++ List.replicate (2 - (lg_sl ([.ref (ga g (1 + k)), .ref (ga g (25 + 8 * k + j))])).length) Slot.unset).toArray = ls at hl ⊢
  have hl : lv_has ls 2 [(0, .ref (ga g (1 + k))), (1, .ref (ga g (25 + 8 * k + j)))] := hl
  unfold fX2_turnOf at hf
  refine lv_aload_n hx hb dX2_turnOf_0 rfl (lv_at hl 1 rfl) ?_
  refine va_getN (D := g.1) (ci := 1) (v := .int (f_kind j)) (C := RX3) (T := TX3) (N := 4) hx hb hts iwX3 hown hK hP (25 + 8 * k + j) (e_sd hk hj he (Q := (f_paths, f_water, f_wall, f_kind, f_place, f_facing, f_age, f_seeds, f_season, f_z, f_spots))) rfl 0 (by decide) (nf_X2_65 hNW) (fun _ h9 => h9) rfl dX2_turnOf_1 ?_
  by_cases hc1 : (f_kind j) = (2 : Int32)
  · have hf := (if_pos hc1).symm.trans hf
    refine lv_tableIn (tgt := 54) hx hb dX2_turnOf_4 (by rw [hc1]; decide) (by rw [hc1]; decide) (by rw [hc1]; rfl) (by decide) ?_
    refine lv_aload_n hx hb dX2_turnOf_54 rfl (lv_at hl 1 rfl) ?_
    refine lv_aload_n hx hb dX2_turnOf_55 rfl (lv_at hl 0 rfl) ?_
    refine lv_aload_n hx hb dX2_turnOf_56 rfl (lv_at hl 1 rfl) ?_
    obtain ⟨q2, hq2, hf⟩ := bd_some hf
    refine kr_S (st1 := [.int q2, .ref (ga g (25 + 8 * k + j))]) (va_runV (As := [.ref (ga g (25 + 8 * k + j))]) (rest := [.ref (ga g (25 + 8 * k + j))]) ⟨hx, hb, hml, hown, hts⟩ (ct_X2_nearestWater l n g σ k hk f_paths f_water f_wall f_kind f_place f_facing f_age f_seeds f_season f_z f_spots he j hj q2 hq2) (cwV 1 hts gX2_turnOf_X2_nearestWater rfl rfl rfl hd_X2_nearestWater ⟨Nat.le_of_ble_eq_true rfl, Nat.le_of_ble_eq_true rfl⟩) ⟨bl_C, va_recv hK hP (ci := 0) (q0 := (1 + k)) rfl (e_pk hk he (Q := (f_paths, f_water, f_wall, f_kind, f_place, f_facing, f_age, f_seeds, f_season, f_z, f_spots))), pr_C rfl hB hP hS⟩ rfl rfl hl.1 rfl (lv_room (Nat.le_of_ble_eq_true rfl)) dX2_turnOf_57 ⟨Nat.le_refl _, Nat.le_refl _⟩) rfl (fun hn3 => ?_)
    obtain ⟨q4, hq4, hf⟩ := bd_some hf
    refine kr_S (st1 := [.int q4]) (va_runS (As := [.ref (ga g (25 + 8 * k + j)), .int q2]) (rest := []) ⟨hx, hb, hml, hown, hts⟩ (ct_X2_toward l n g σ k hk f_paths f_water f_wall f_kind f_place f_facing f_age f_seeds f_season f_z f_spots he j hj q2 q4 hq4) (va_cwS 2 hts gX2_turnOf_X2_toward rfl rfl rfl hn_X2_toward ⟨Nat.le_of_ble_eq_true rfl, Nat.le_of_ble_eq_true rfl⟩) ⟨bl_C, pr_C rfl hB hP hS⟩ rfl rfl hl.1 rfl (lv_room (Nat.le_of_ble_eq_true rfl)) dX2_turnOf_60 ⟨Nat.le_refl _, Nat.le_refl _⟩) rfl (fun hn5 => ?_)
    have hres : q4 = res := (Option.some.inj hf)
    exact W.iret (v := q4) hx hb hr (fun t ht hW => ⟨congrArg (fun z => Outcome.returned (some (Value.int z))) hres, trivial, ht⟩) t_nil dX2_turnOf_63
  · have hf := (if_neg hc1).symm.trans hf
    by_cases hc6 : (f_kind j) = (3 : Int32)
    · have hf := (if_pos hc6).symm.trans hf
      refine lv_tableIn (tgt := 64) hx hb dX2_turnOf_4 (by rw [hc6]; decide) (by rw [hc6]; decide) (by rw [hc6]; rfl) (by decide) ?_
      refine lv_aload_n hx hb dX2_turnOf_64 rfl (lv_at hl 1 rfl) ?_
      refine lv_aload_n hx hb dX2_turnOf_65 rfl (lv_at hl 0 rfl) ?_
      refine lv_aload_n hx hb dX2_turnOf_66 rfl (lv_at hl 1 rfl) ?_
      obtain ⟨q7, hq7, hf⟩ := bd_some hf
      refine kr_S (st1 := [.int q7, .ref (ga g (25 + 8 * k + j))]) (va_runV (As := [.ref (ga g (25 + 8 * k + j))]) (rest := [.ref (ga g (25 + 8 * k + j))]) ⟨hx, hb, hml, hown, hts⟩ (ct_X2_nearestCompany l n g σ k hk f_paths f_water f_wall f_kind f_place f_facing f_age f_seeds f_season f_z f_spots he j hj q7 hq7) (cwV 1 hts gX2_turnOf_X2_nearestCompany rfl rfl rfl hd_X2_nearestCompany ⟨Nat.le_of_ble_eq_true rfl, Nat.le_of_ble_eq_true rfl⟩) ⟨bl_C, va_recv hK hP (ci := 0) (q0 := (1 + k)) rfl (e_pk hk he (Q := (f_paths, f_water, f_wall, f_kind, f_place, f_facing, f_age, f_seeds, f_season, f_z, f_spots))), pr_C rfl hB hP hS⟩ rfl rfl hl.1 rfl (lv_room (Nat.le_of_ble_eq_true rfl)) dX2_turnOf_67 ⟨Nat.le_refl _, Nat.le_refl _⟩) rfl (fun hn8 => ?_)
      obtain ⟨q9, hq9, hf⟩ := bd_some hf
      refine kr_S (st1 := [.int q9]) (va_runS (As := [.ref (ga g (25 + 8 * k + j)), .int q7]) (rest := []) ⟨hx, hb, hml, hown, hts⟩ (ct_X2_toward l n g σ k hk f_paths f_water f_wall f_kind f_place f_facing f_age f_seeds f_season f_z f_spots he j hj q7 q9 hq9) (va_cwS 2 hts gX2_turnOf_X2_toward rfl rfl rfl hn_X2_toward ⟨Nat.le_of_ble_eq_true rfl, Nat.le_of_ble_eq_true rfl⟩) ⟨bl_C, pr_C rfl hB hP hS⟩ rfl rfl hl.1 rfl (lv_room (Nat.le_of_ble_eq_true rfl)) dX2_turnOf_70 ⟨Nat.le_refl _, Nat.le_refl _⟩) rfl (fun hn10 => ?_)
      have hres : q9 = res := (Option.some.inj hf)
      exact W.iret (v := q9) hx hb hr (fun t ht hW => ⟨congrArg (fun z => Outcome.returned (some (Value.int z))) hres, trivial, ht⟩) t_nil dX2_turnOf_73
    · have hf := (if_neg hc6).symm.trans hf
      by_cases hc11 : (f_kind j) = (4 : Int32)
      · have hf := (if_pos hc11).symm.trans hf
        refine lv_tableIn (tgt := 74) hx hb dX2_turnOf_4 (by rw [hc11]; decide) (by rw [hc11]; decide) (by rw [hc11]; rfl) (by decide) ?_
        refine lv_aload_n hx hb dX2_turnOf_74 rfl (lv_at hl 1 rfl) ?_
        refine lv_aload_n hx hb dX2_turnOf_75 rfl (lv_at hl 0 rfl) ?_
        refine lv_aload_n hx hb dX2_turnOf_76 rfl (lv_at hl 1 rfl) ?_
        obtain ⟨q12, hq12, hf⟩ := bd_some hf
        refine kr_S (st1 := [.int q12, .ref (ga g (25 + 8 * k + j))]) (va_runV (As := [.ref (ga g (25 + 8 * k + j))]) (rest := [.ref (ga g (25 + 8 * k + j))]) ⟨hx, hb, hml, hown, hts⟩ (ct_X2_nearestCompany l n g σ k hk f_paths f_water f_wall f_kind f_place f_facing f_age f_seeds f_season f_z f_spots he j hj q12 hq12) (cwV 1 hts gX2_turnOf_X2_nearestCompany rfl rfl rfl hd_X2_nearestCompany ⟨Nat.le_of_ble_eq_true rfl, Nat.le_of_ble_eq_true rfl⟩) ⟨bl_C, va_recv hK hP (ci := 0) (q0 := (1 + k)) rfl (e_pk hk he (Q := (f_paths, f_water, f_wall, f_kind, f_place, f_facing, f_age, f_seeds, f_season, f_z, f_spots))), pr_C rfl hB hP hS⟩ rfl rfl hl.1 rfl (lv_room (Nat.le_of_ble_eq_true rfl)) dX2_turnOf_77 ⟨Nat.le_refl _, Nat.le_refl _⟩) rfl (fun hn13 => ?_)
        obtain ⟨q14, hq14, hf⟩ := bd_some hf
        refine kr_S (st1 := [.int q14]) (va_runS (As := [.ref (ga g (25 + 8 * k + j)), .int q12]) (rest := []) ⟨hx, hb, hml, hown, hts⟩ (ct_X2_toward l n g σ k hk f_paths f_water f_wall f_kind f_place f_facing f_age f_seeds f_season f_z f_spots he j hj q12 q14 hq14) (va_cwS 2 hts gX2_turnOf_X2_toward rfl rfl rfl hn_X2_toward ⟨Nat.le_of_ble_eq_true rfl, Nat.le_of_ble_eq_true rfl⟩) ⟨bl_C, pr_C rfl hB hP hS⟩ rfl rfl hl.1 rfl (lv_room (Nat.le_of_ble_eq_true rfl)) dX2_turnOf_80 ⟨Nat.le_refl _, Nat.le_refl _⟩) rfl (fun hn15 => ?_)
        refine lv_aload_n hx hb dX2_turnOf_83 rfl (lv_at hl 0 rfl) ?_
        refine va_get (D := g.1) (ci := 0) (v := .int f_season) (C := RX2) (T := TX2) (N := 8) hx hb hts iwX2 hown hK hP (1 + k) (e_pk hk he (Q := (f_paths, f_water, f_wall, f_kind, f_place, f_facing, f_age, f_seeds, f_season, f_z, f_spots))) rfl 5 (by decide) hw0 (fun _ h9 => h9) rfl dX2_turnOf_84 ?_
        refine lv_iconst (v := (1 : Int32)) hx hb dX2_turnOf_87 (by decide) ?_
        refine lv_iand hx hb dX2_turnOf_88 ?_
        obtain ⟨q16, hq16, hf⟩ := bd_some hf
        refine kr_S (st1 := [.int q16]) (va_runS (As := [.int q14, .int (f_season &&& (1 : Int32))]) (rest := []) ⟨hx, hb, hml, hown, hts⟩ (ct_X0_turned l n q14 (f_season &&& (1 : Int32)) q16 hq16) (va_cwS 2 hts gX2_turnOf_X0_turned rfl rfl rfl hn_X0_turned ⟨Nat.le_of_ble_eq_true rfl, Nat.le_of_ble_eq_true rfl⟩) ⟨bl_N, pr_N rfl hNW⟩ rfl rfl hl.1 rfl (lv_room (Nat.le_of_ble_eq_true rfl)) dX2_turnOf_89 ⟨Nat.le_refl _, Nat.le_refl _⟩) rfl (fun hn17 => ?_)
        have hres : q16 = res := (Option.some.inj hf)
        exact W.iret (v := q16) hx hb hr (fun t ht hW => ⟨congrArg (fun z => Outcome.returned (some (Value.int z))) hres, trivial, ht⟩) t_nil dX2_turnOf_92
      · have hf := (if_neg hc11).symm.trans hf
        by_cases hc18 : (f_kind j) = (5 : Int32)
        · have hf := (if_pos hc18).symm.trans hf
          refine lv_tableIn (tgt := 93) hx hb dX2_turnOf_4 (by rw [hc18]; decide) (by rw [hc18]; decide) (by rw [hc18]; rfl) (by decide) ?_
          refine lv_aload_n hx hb dX2_turnOf_93 rfl (lv_at hl 1 rfl) ?_
          refine va_getN (D := g.1) (ci := 1) (v := .int (f_facing j)) (C := RX3) (T := TX3) (N := 4) hx hb hts iwX3 hown hK hP (25 + 8 * k + j) (e_sd hk hj he (Q := (f_paths, f_water, f_wall, f_kind, f_place, f_facing, f_age, f_seeds, f_season, f_z, f_spots))) rfl 2 (by decide) (nf_X2_71 hNW) (fun _ h9 => h9) rfl dX2_turnOf_94 ?_
          refine lv_iconst (v := (1 : Int32)) hx hb dX2_turnOf_97 (by decide) ?_
          obtain ⟨q19, hq19, hf⟩ := bd_some hf
          refine kr_S (st1 := [.int q19]) (va_runS (As := [.int (f_facing j), .int (1 : Int32)]) (rest := []) ⟨hx, hb, hml, hown, hts⟩ (ct_X0_turned l n (f_facing j) (1 : Int32) q19 hq19) (va_cwS 2 hts gX2_turnOf_X0_turned rfl rfl rfl hn_X0_turned ⟨Nat.le_of_ble_eq_true rfl, Nat.le_of_ble_eq_true rfl⟩) ⟨bl_N, pr_N rfl hNW⟩ rfl rfl hl.1 rfl (lv_room (Nat.le_of_ble_eq_true rfl)) dX2_turnOf_98 ⟨Nat.le_refl _, Nat.le_refl _⟩) rfl (fun hn20 => ?_)
          have hres : q19 = res := (Option.some.inj hf)
          exact W.iret (v := q19) hx hb hr (fun t ht hW => ⟨congrArg (fun z => Outcome.returned (some (Value.int z))) hres, trivial, ht⟩) t_nil dX2_turnOf_101
        · have hf := (if_neg hc18).symm.trans hf
          by_cases hc21 : (f_kind j) = (6 : Int32)
          · have hf := (if_pos hc21).symm.trans hf
            refine lv_tableIn (tgt := 40) hx hb dX2_turnOf_4 (by rw [hc21]; decide) (by rw [hc21]; decide) (by rw [hc21]; rfl) (by decide) ?_
            refine lv_aload_n hx hb dX2_turnOf_40 rfl (lv_at hl 1 rfl) ?_
            refine va_getN (D := g.1) (ci := 1) (v := .int (f_facing j)) (C := RX3) (T := TX3) (N := 4) hx hb hts iwX3 hown hK hP (25 + 8 * k + j) (e_sd hk hj he (Q := (f_paths, f_water, f_wall, f_kind, f_place, f_facing, f_age, f_seeds, f_season, f_z, f_spots))) rfl 2 (by decide) (nf_X2_71 hNW) (fun _ h9 => h9) rfl dX2_turnOf_41 ?_
            refine lv_aload_n hx hb dX2_turnOf_44 rfl (lv_at hl 1 rfl) ?_
            refine va_getN (D := g.1) (ci := 1) (v := .int (f_age j)) (C := RX3) (T := TX3) (N := 4) hx hb hts iwX3 hown hK hP (25 + 8 * k + j) (e_sd hk hj he (Q := (f_paths, f_water, f_wall, f_kind, f_place, f_facing, f_age, f_seeds, f_season, f_z, f_spots))) rfl 3 (by decide) (nf_X2_74 hNW) (fun _ h9 => h9) rfl dX2_turnOf_45 ?_
            refine lv_iconst (v := (1 : Int32)) hx hb dX2_turnOf_48 (by decide) ?_
            refine lv_iand hx hb dX2_turnOf_49 ?_
            obtain ⟨q22, hq22, hf⟩ := bd_some hf
            refine kr_S (st1 := [.int q22]) (va_runS (As := [.int (f_facing j), .int ((f_age j) &&& (1 : Int32))]) (rest := []) ⟨hx, hb, hml, hown, hts⟩ (ct_X0_turned l n (f_facing j) ((f_age j) &&& (1 : Int32)) q22 hq22) (va_cwS 2 hts gX2_turnOf_X0_turned rfl rfl rfl hn_X0_turned ⟨Nat.le_of_ble_eq_true rfl, Nat.le_of_ble_eq_true rfl⟩) ⟨bl_N, pr_N rfl hNW⟩ rfl rfl hl.1 rfl (lv_room (Nat.le_of_ble_eq_true rfl)) dX2_turnOf_50 ⟨Nat.le_refl _, Nat.le_refl _⟩) rfl (fun hn23 => ?_)
            have hres : q22 = res := (Option.some.inj hf)
            exact W.iret (v := q22) hx hb hr (fun t ht hW => ⟨congrArg (fun z => Outcome.returned (some (Value.int z))) hres, trivial, ht⟩) t_nil dX2_turnOf_53
          · have hf := (if_neg hc21).symm.trans hf
            refine lv_tableOut (tgt := 102) hx hb dX2_turnOf_4 (by have := lv_neT (a := 2) hc1 rfl; have := lv_neT (a := 3) hc6 rfl; have := lv_neT (a := 4) hc11 rfl; have := lv_neT (a := 5) hc18 rfl; have := lv_neT (a := 6) hc21 rfl; omega) (by decide) ?_
            refine lv_aload_n hx hb dX2_turnOf_102 rfl (lv_at hl 1 rfl) ?_
            refine va_getN (D := g.1) (ci := 1) (v := .int (f_facing j)) (C := RX3) (T := TX3) (N := 4) hx hb hts iwX3 hown hK hP (25 + 8 * k + j) (e_sd hk hj he (Q := (f_paths, f_water, f_wall, f_kind, f_place, f_facing, f_age, f_seeds, f_season, f_z, f_spots))) rfl 2 (by decide) (nf_X2_71 hNW) (fun _ h9 => h9) rfl dX2_turnOf_103 ?_
            have hres : (f_facing j) = res := (Option.some.inj hf)
            exact W.iret (v := (f_facing j)) hx hb hr (fun t ht hW => ⟨congrArg (fun z => Outcome.returned (some (Value.int z))) hres, trivial, ht⟩) t_nil dX2_turnOf_106
set_option maxHeartbeats 4000000 in
set_option maxRecDepth 100000 in
theorem ct_X6_of (l : Launch) (n : Nat) (g : GC) (p0_paths : Nat → Int32) (p0_water : Int64) (p0_wall : Int64) (p0_kind : Nat → Int32) (p0_place : Nat → Int32) (p0_facing : Nat → Int32) (p0_age : Nat → Int32) (p0_seeds : Int32) (p0_season : Int32) (p0_z : Int32) (p0_spots : Nat → Int32) (p1_paths : Nat → Int32) (p1_water : Int64) (p1_wall : Int64) (p1_kind : Nat → Int32) (p1_place : Nat → Int32) (p1_facing : Nat → Int32) (p1_age : Nat → Int32) (p1_seeds : Int32) (p1_season : Int32) (p1_z : Int32) (p1_spots : Nat → Int32) (p2_paths : Nat → Int32) (p2_water : Int64) (p2_wall : Int64) (p2_kind : Nat → Int32) (p2_place : Nat → Int32) (p2_facing : Nat → Int32) (p2_age : Nat → Int32) (p2_seeds : Int32) (p2_season : Int32) (p2_z : Int32) (p2_spots : Nat → Int32) (t_bytes : Nat → Int32) (t_length : Int32) (t_sort : Int32) (t_start : Int32) (t_end : Int32) (t_value : Int32) (h_numbers : Nat → Nat → Int32) (h_bits : Nat → Int32) (h_size : Nat → Int32) (w_isKept : Int32) (w_told : Nat → Int32) (a1 : Int32) (a2 : Int32) (res : Int32 × (Nat → Int32)) (hf : fX6_of n a1 a2 p0_water p0_kind p0_place p0_facing p0_age p0_seeds p0_season w_told = some res) : Met l yX6_of wsX6_of ({ frames := 4, cells := 0, slots := 0, locals := 93 }) (va_Pc [.ref (ga g 0), .int a1, .int a2] (cI g (pk3 (p0_paths, p0_water, p0_wall, p0_kind, p0_place, p0_facing, p0_age, p0_seeds, p0_season, p0_z, p0_spots) (p1_paths, p1_water, p1_wall, p1_kind, p1_place, p1_facing, p1_age, p1_seeds, p1_season, p1_z, p1_spots) (p2_paths, p2_water, p2_wall, p2_kind, p2_place, p2_facing, p2_age, p2_seeds, p2_season, p2_z, p2_spots), w_isKept, (t_bytes, t_length, t_sort, t_start, t_end, t_value), (h_numbers, h_bits, h_size), w_told))) (qW (some (.int res.1)) True g.1 (cw g (pk3 (p0_paths, p0_water, p0_wall, p0_kind, p0_place, p0_facing, p0_age, p0_seeds, p0_season, p0_z, p0_spots) (p1_paths, p1_water, p1_wall, p1_kind, p1_place, p1_facing, p1_age, p1_seeds, p1_season, p1_z, p1_spots) (p2_paths, p2_water, p2_wall, p2_kind, p2_place, p2_facing, p2_age, p2_seeds, p2_season, p2_z, p2_spots), w_isKept, (t_bytes, t_length, t_sort, t_start, t_end, t_value), (h_numbers, h_bits, h_size), res.2)) (gA g)) 0 0 (gA g) := by
  refine Met.ofW (cc := cX6_of) (maxL := 4) (ret := (some .int)) (by decide) rfl ?_
  intro p e s m args below meth c s₁ B hml hv
  obtain ⟨rfl, hI⟩ := hv
  have hx := B.exec
  have hb := B.bytes
  have hr := B.returns
  have hts := atoms_spec (ws := wsX6_of) B.pre
  have hown : s.vm.findClass RX6 = some m.cls := findClass_of_methodNamed B.named
  have hlocks := B.notSynchronized
  have hP := hI.1
  have hB := hI.2
  have hK := hB.1
  have hNW := hB.2.1
  have hS : va_S (gA g) s.heap s.heap [] := va_S.rf
  have hw0 := hts (.fieldLink RX6 10 "SownPaths" "park" "LSownPaths$Park;") (by decide +kernel)
  have iwX3 : ∀ w ∈ wsX30, w ∈ wsX6_of := fun w h => List.mem_cons_of_mem _ (List.mem_append_left _ (List.mem_append_right _ h))
  have iwX6 : ∀ w ∈ wsX60, w ∈ wsX6_of := fun w h => List.mem_cons_of_mem _ (List.mem_append_left _ (List.mem_append_left _ (List.mem_append_right _ h)))
  have hl := lv_entry ([.ref (ga g 0), .int a1, .int a2]) (n := 4) (Nat.le_of_ble_eq_true rfl)
  rw [lg_entry_eq]
  generalize (lg_sl ([.ref (ga g 0), .int a1, .int a2]) ++ List.replicate (4 - (lg_sl ([.ref (ga g 0), .int a1, .int a2])).length) Slot.unset).toArray = ls at hl ⊢
  have hl : lv_has ls 4 [(0, .ref (ga g 0)), (1, .int a1), (2, .int a2)] := hl
  unfold fX6_of at hf
  refine lv_aload_n hx hb dX6_of_0 rfl (lv_at hl 0 rfl) ?_
  refine va_get (D := g.1) (ci := 4) (v := .ref (ga g (1 + 0))) (C := RX6) (T := TX6) (N := 7) hx hb hts iwX6 hown hK hP 0 q_sp rfl 0 (by decide) hw0 (fun _ h9 => h9) rfl dX6_of_1 ?_
  refine lv_iload_n hx hb dX6_of_4 rfl (lv_at hl 1 rfl) ?_
  obtain ⟨q1, hq1, hf⟩ := bd_some hf
  refine kr_S (st1 := [va_rf (Option.map (fun j => ga g (25 + 8 * 0 + j)) q1)]) (va_runV (As := [.int a1]) (rest := []) ⟨hx, hb, hml, hown, hts⟩ (ct_X2_seedAt l n g (pk3 (p0_paths, p0_water, p0_wall, p0_kind, p0_place, p0_facing, p0_age, p0_seeds, p0_season, p0_z, p0_spots) (p1_paths, p1_water, p1_wall, p1_kind, p1_place, p1_facing, p1_age, p1_seeds, p1_season, p1_z, p1_spots) (p2_paths, p2_water, p2_wall, p2_kind, p2_place, p2_facing, p2_age, p2_seeds, p2_season, p2_z, p2_spots), w_isKept, (t_bytes, t_length, t_sort, t_start, t_end, t_value), (h_numbers, h_bits, h_size), w_told) 0 (by decide) p0_paths p0_water p0_wall p0_kind p0_place p0_facing p0_age p0_seeds p0_season p0_z p0_spots rfl a1 q1 hq1) (cwV 1 hts gX6_of_X2_seedAt rfl rfl rfl hd_X2_seedAt ⟨Nat.le_of_ble_eq_true rfl, Nat.le_of_ble_eq_true rfl⟩) ⟨bl_C, va_recv hK hP (ci := 0) (q0 := (1 + 0)) rfl (e_pk (by decide) rfl (Q := (p0_paths, p0_water, p0_wall, p0_kind, p0_place, p0_facing, p0_age, p0_seeds, p0_season, p0_z, p0_spots))), pr_C rfl hB hP hS⟩ rfl rfl hl.1 rfl (lv_room (Nat.le_of_ble_eq_true rfl)) dX6_of_5 ⟨Nat.le_refl _, Nat.le_refl _⟩) rfl (fun hn2 => ?_)
  rcases q1 with _ | j3
  · have hf := eo_n hf
    refine W.eq (g2 := F0 m 8 ls [.null]) rfl ?_
    refine lv_astore_nN (lv' := [(3, .null), (0, .ref (ga g 0)), (1, .int a1), (2, .int a2)]) hx hb dX6_of_8 rfl hl (by decide) rfl (fun ls hl => ?_)
    refine lv_aload_nN hx hb dX6_of_9 rfl (lv_at hl 0 rfl) ?_
    refine lv_ifnonnullN hx hb dX6_of_10 ?_
    refine lv_aload_n hx hb dX6_of_13 rfl (lv_at hl 1 rfl) ?_
    refine lv_iconst (v := (0 : Int32)) hx hb dX6_of_14 (by decide) ?_
    obtain ⟨q5, hq5, hf⟩ := bd_some hf
    refine kr_W (st1 := [.int q5.1]) (va_runV (As := [.int (0 : Int32)]) (rest := []) ⟨hx, hb, hml, hown, hts⟩ (ct_X6_finding l n g p0_paths p0_water p0_wall p0_kind p0_place p0_facing p0_age p0_seeds p0_season p0_z p0_spots p1_paths p1_water p1_wall p1_kind p1_place p1_facing p1_age p1_seeds p1_season p1_z p1_spots p2_paths p2_water p2_wall p2_kind p2_place p2_facing p2_age p2_seeds p2_season p2_z p2_spots t_bytes t_length t_sort t_start t_end t_value h_numbers h_bits h_size w_isKept w_told (0 : Int32) q5 hq5) (cwV 1 hts gX6_of_X6_finding rfl rfl rfl hd_X6_finding ⟨Nat.le_of_ble_eq_true rfl, Nat.le_of_ble_eq_true rfl⟩) ⟨bl_C, va_recv hK hP (ci := 4) (q0 := 0) rfl q_sp, pr_C rfl hB hP hS⟩ rfl rfl hl.1 rfl (lv_room (Nat.le_of_ble_eq_true rfl)) dX6_of_15 ⟨Nat.le_refl _, Nat.le_refl _⟩) hS rfl (fun hn6 H locs hP hS => ?_)
    have hP : va_P g.1 vwCl (cw g (pk3 (p0_paths, p0_water, p0_wall, p0_kind, p0_place, p0_facing, p0_age, p0_seeds, p0_season, p0_z, p0_spots) (p1_paths, p1_water, p1_wall, p1_kind, p1_place, p1_facing, p1_age, p1_seeds, p1_season, p1_z, p1_spots) (p2_paths, p2_water, p2_wall, p2_kind, p2_place, p2_facing, p2_age, p2_seeds, p2_season, p2_z, p2_spots), w_isKept, (t_bytes, t_length, t_sort, t_start, t_end, t_value), (h_numbers, h_bits, h_size), q5.2)) H := hP
    have hres : (q5.1, q5.2) = res := (Option.some.inj hf)
    have hP := w_eq (congrArg (fun z => cw g (pk3 (p0_paths, p0_water, p0_wall, p0_kind, p0_place, p0_facing, p0_age, p0_seeds, p0_season, p0_z, p0_spots) (p1_paths, p1_water, p1_wall, p1_kind, p1_place, p1_facing, p1_age, p1_seeds, p1_season, p1_z, p1_spots) (p2_paths, p2_water, p2_wall, p2_kind, p2_place, p2_facing, p2_age, p2_seeds, p2_season, p2_z, p2_spots), w_isKept, (t_bytes, t_length, t_sort, t_start, t_end, t_value), (h_numbers, h_bits, h_size), z.2)) hres) hP
    exact W.iret (v := q5.1) hx hb hr (fun t ht hW => ⟨congrArg (fun z => Outcome.returned (some (Value.int z.1))) hres, trivial, by rw [ht]; exact hP, hS.F ht⟩) hS.2.2 dX6_of_18
  · have hf := eo_s hf
    have hj4 := hn2 _ rfl
    refine W.eq (g2 := F0 m 8 ls [.ref (ga g (25 + 8 * 0 + j3))]) rfl ?_
    refine lv_astore_n (lv' := [(3, .ref (ga g (25 + 8 * 0 + j3))), (0, .ref (ga g 0)), (1, .int a1), (2, .int a2)]) hx hb dX6_of_8 rfl hl (by decide) rfl (fun ls hl => ?_)
    refine lv_aload_n hx hb dX6_of_9 rfl (lv_at hl 0 rfl) ?_
    refine lv_ifnonnull (tgt := 19) hx hb dX6_of_10 (by decide) ?_
    refine lv_iload_n hx hb dX6_of_19 rfl (lv_at hl 3 rfl) ?_
    by_cases hc7 : a2 = (0 : Int32)
    · have hf := (if_pos hc7).symm.trans hf
      refine lv_tableIn (tgt := 68) hx hb dX6_of_20 (by rw [hc7]; decide) (by rw [hc7]; decide) (by rw [hc7]; rfl) (by decide) ?_
      refine lv_aload_n hx hb dX6_of_68 rfl (lv_at hl 0 rfl) ?_
      refine va_getN (D := g.1) (ci := 1) (v := .int (p0_kind j3)) (C := RX3) (T := TX3) (N := 4) hx hb hts iwX3 hown hK hP (25 + 8 * 0 + j3) (e_sd (by decide) hj4 rfl (Q := (p0_paths, p0_water, p0_wall, p0_kind, p0_place, p0_facing, p0_age, p0_seeds, p0_season, p0_z, p0_spots))) rfl 0 (by decide) (nf_X6_109 hNW) (fun _ h9 => h9) rfl dX6_of_69 ?_
      have hres : ((p0_kind j3), w_told) = res := (Option.some.inj hf)
      have hP := w_eq (congrArg (fun z => cw g (pk3 (p0_paths, p0_water, p0_wall, p0_kind, p0_place, p0_facing, p0_age, p0_seeds, p0_season, p0_z, p0_spots) (p1_paths, p1_water, p1_wall, p1_kind, p1_place, p1_facing, p1_age, p1_seeds, p1_season, p1_z, p1_spots) (p2_paths, p2_water, p2_wall, p2_kind, p2_place, p2_facing, p2_age, p2_seeds, p2_season, p2_z, p2_spots), w_isKept, (t_bytes, t_length, t_sort, t_start, t_end, t_value), (h_numbers, h_bits, h_size), z.2)) hres) hP
      exact W.iret (v := (p0_kind j3)) hx hb hr (fun t ht hW => ⟨congrArg (fun z => Outcome.returned (some (Value.int z.1))) hres, trivial, by rw [ht]; exact hP, hS.F ht⟩) hS.2.2 dX6_of_72
    · have hf := (if_neg hc7).symm.trans hf
      by_cases hc8 : a2 = (1 : Int32)
      · have hf := (if_pos hc8).symm.trans hf
        refine lv_tableIn (tgt := 73) hx hb dX6_of_20 (by rw [hc8]; decide) (by rw [hc8]; decide) (by rw [hc8]; rfl) (by decide) ?_
        refine lv_aload_n hx hb dX6_of_73 rfl (lv_at hl 0 rfl) ?_
        refine va_getN (D := g.1) (ci := 1) (v := .int (p0_place j3)) (C := RX3) (T := TX3) (N := 4) hx hb hts iwX3 hown hK hP (25 + 8 * 0 + j3) (e_sd (by decide) hj4 rfl (Q := (p0_paths, p0_water, p0_wall, p0_kind, p0_place, p0_facing, p0_age, p0_seeds, p0_season, p0_z, p0_spots))) rfl 1 (by decide) (nf_X6_115 hNW) (fun _ h9 => h9) rfl dX6_of_74 ?_
        have hres : ((p0_place j3), w_told) = res := (Option.some.inj hf)
        have hP := w_eq (congrArg (fun z => cw g (pk3 (p0_paths, p0_water, p0_wall, p0_kind, p0_place, p0_facing, p0_age, p0_seeds, p0_season, p0_z, p0_spots) (p1_paths, p1_water, p1_wall, p1_kind, p1_place, p1_facing, p1_age, p1_seeds, p1_season, p1_z, p1_spots) (p2_paths, p2_water, p2_wall, p2_kind, p2_place, p2_facing, p2_age, p2_seeds, p2_season, p2_z, p2_spots), w_isKept, (t_bytes, t_length, t_sort, t_start, t_end, t_value), (h_numbers, h_bits, h_size), z.2)) hres) hP
        exact W.iret (v := (p0_place j3)) hx hb hr (fun t ht hW => ⟨congrArg (fun z => Outcome.returned (some (Value.int z.1))) hres, trivial, by rw [ht]; exact hP, hS.F ht⟩) hS.2.2 dX6_of_77
      · have hf := (if_neg hc8).symm.trans hf
        by_cases hc9 : a2 = (2 : Int32)
        · have hf := (if_pos hc9).symm.trans hf
          refine lv_tableIn (tgt := 78) hx hb dX6_of_20 (by rw [hc9]; decide) (by rw [hc9]; decide) (by rw [hc9]; rfl) (by decide) ?_
          refine lv_aload_n hx hb dX6_of_78 rfl (lv_at hl 0 rfl) ?_
          refine va_getN (D := g.1) (ci := 1) (v := .int (p0_facing j3)) (C := RX3) (T := TX3) (N := 4) hx hb hts iwX3 hown hK hP (25 + 8 * 0 + j3) (e_sd (by decide) hj4 rfl (Q := (p0_paths, p0_water, p0_wall, p0_kind, p0_place, p0_facing, p0_age, p0_seeds, p0_season, p0_z, p0_spots))) rfl 2 (by decide) (nf_X6_118 hNW) (fun _ h9 => h9) rfl dX6_of_79 ?_
          have hres : ((p0_facing j3), w_told) = res := (Option.some.inj hf)
          have hP := w_eq (congrArg (fun z => cw g (pk3 (p0_paths, p0_water, p0_wall, p0_kind, p0_place, p0_facing, p0_age, p0_seeds, p0_season, p0_z, p0_spots) (p1_paths, p1_water, p1_wall, p1_kind, p1_place, p1_facing, p1_age, p1_seeds, p1_season, p1_z, p1_spots) (p2_paths, p2_water, p2_wall, p2_kind, p2_place, p2_facing, p2_age, p2_seeds, p2_season, p2_z, p2_spots), w_isKept, (t_bytes, t_length, t_sort, t_start, t_end, t_value), (h_numbers, h_bits, h_size), z.2)) hres) hP
          exact W.iret (v := (p0_facing j3)) hx hb hr (fun t ht hW => ⟨congrArg (fun z => Outcome.returned (some (Value.int z.1))) hres, trivial, by rw [ht]; exact hP, hS.F ht⟩) hS.2.2 dX6_of_82
        · have hf := (if_neg hc9).symm.trans hf
          by_cases hc10 : a2 = (3 : Int32)
          · have hf := (if_pos hc10).symm.trans hf
            refine lv_tableIn (tgt := 83) hx hb dX6_of_20 (by rw [hc10]; decide) (by rw [hc10]; decide) (by rw [hc10]; rfl) (by decide) ?_
            refine lv_aload_n hx hb dX6_of_83 rfl (lv_at hl 0 rfl) ?_
            refine va_getN (D := g.1) (ci := 1) (v := .int (p0_age j3)) (C := RX3) (T := TX3) (N := 4) hx hb hts iwX3 hown hK hP (25 + 8 * 0 + j3) (e_sd (by decide) hj4 rfl (Q := (p0_paths, p0_water, p0_wall, p0_kind, p0_place, p0_facing, p0_age, p0_seeds, p0_season, p0_z, p0_spots))) rfl 3 (by decide) (nf_X6_121 hNW) (fun _ h9 => h9) rfl dX6_of_84 ?_
            have hres : ((p0_age j3), w_told) = res := (Option.some.inj hf)
            have hP := w_eq (congrArg (fun z => cw g (pk3 (p0_paths, p0_water, p0_wall, p0_kind, p0_place, p0_facing, p0_age, p0_seeds, p0_season, p0_z, p0_spots) (p1_paths, p1_water, p1_wall, p1_kind, p1_place, p1_facing, p1_age, p1_seeds, p1_season, p1_z, p1_spots) (p2_paths, p2_water, p2_wall, p2_kind, p2_place, p2_facing, p2_age, p2_seeds, p2_season, p2_z, p2_spots), w_isKept, (t_bytes, t_length, t_sort, t_start, t_end, t_value), (h_numbers, h_bits, h_size), z.2)) hres) hP
            exact W.iret (v := (p0_age j3)) hx hb hr (fun t ht hW => ⟨congrArg (fun z => Outcome.returned (some (Value.int z.1))) hres, trivial, by rw [ht]; exact hP, hS.F ht⟩) hS.2.2 dX6_of_87
          · have hf := (if_neg hc10).symm.trans hf
            by_cases hc11 : a2 = (4 : Int32)
            · have hf := (if_pos hc11).symm.trans hf
              refine lv_tableIn (tgt := 88) hx hb dX6_of_20 (by rw [hc11]; decide) (by rw [hc11]; decide) (by rw [hc11]; rfl) (by decide) ?_
              refine lv_aload_n hx hb dX6_of_88 rfl (lv_at hl 0 rfl) ?_
              obtain ⟨q12, hq12, hf⟩ := bd_some hf
              refine kr_S (st1 := [.int q12]) (va_runV (As := []) (rest := []) ⟨hx, hb, hml, hown, hts⟩ (ct_X3_lives l n g (pk3 (p0_paths, p0_water, p0_wall, p0_kind, p0_place, p0_facing, p0_age, p0_seeds, p0_season, p0_z, p0_spots) (p1_paths, p1_water, p1_wall, p1_kind, p1_place, p1_facing, p1_age, p1_seeds, p1_season, p1_z, p1_spots) (p2_paths, p2_water, p2_wall, p2_kind, p2_place, p2_facing, p2_age, p2_seeds, p2_season, p2_z, p2_spots), w_isKept, (t_bytes, t_length, t_sort, t_start, t_end, t_value), (h_numbers, h_bits, h_size), w_told) 0 (by decide) p0_paths p0_water p0_wall p0_kind p0_place p0_facing p0_age p0_seeds p0_season p0_z p0_spots rfl j3 hj4 q12 hq12) (cwV 0 hts gX6_of_X3_lives rfl rfl rfl hd_X3_lives ⟨Nat.le_of_ble_eq_true rfl, Nat.le_of_ble_eq_true rfl⟩) ⟨bl_C, va_recv hK hP (ci := 1) (q0 := (25 + 8 * 0 + j3)) rfl (e_sd (by decide) hj4 rfl (Q := (p0_paths, p0_water, p0_wall, p0_kind, p0_place, p0_facing, p0_age, p0_seeds, p0_season, p0_z, p0_spots))), pr_C rfl hB hP hS⟩ rfl rfl hl.1 rfl (lv_room (Nat.le_of_ble_eq_true rfl)) dX6_of_89 ⟨Nat.le_refl _, Nat.le_refl _⟩) rfl (fun hn13 => ?_)
              have hres : (q12, w_told) = res := (Option.some.inj hf)
              have hP := w_eq (congrArg (fun z => cw g (pk3 (p0_paths, p0_water, p0_wall, p0_kind, p0_place, p0_facing, p0_age, p0_seeds, p0_season, p0_z, p0_spots) (p1_paths, p1_water, p1_wall, p1_kind, p1_place, p1_facing, p1_age, p1_seeds, p1_season, p1_z, p1_spots) (p2_paths, p2_water, p2_wall, p2_kind, p2_place, p2_facing, p2_age, p2_seeds, p2_season, p2_z, p2_spots), w_isKept, (t_bytes, t_length, t_sort, t_start, t_end, t_value), (h_numbers, h_bits, h_size), z.2)) hres) hP
              exact W.iret (v := q12) hx hb hr (fun t ht hW => ⟨congrArg (fun z => Outcome.returned (some (Value.int z.1))) hres, trivial, by rw [ht]; exact hP, hS.F ht⟩) hS.2.2 dX6_of_92
            · have hf := (if_neg hc11).symm.trans hf
              by_cases hc14 : a2 = (5 : Int32)
              · have hf := (if_pos hc14).symm.trans hf
                refine lv_tableIn (tgt := 93) hx hb dX6_of_20 (by rw [hc14]; decide) (by rw [hc14]; decide) (by rw [hc14]; rfl) (by decide) ?_
                refine lv_aload_n hx hb dX6_of_93 rfl (lv_at hl 0 rfl) ?_
                obtain ⟨q15, hq15, hf⟩ := bd_some hf
                refine kr_S (st1 := [.int q15]) (va_runV (As := []) (rest := []) ⟨hx, hb, hml, hown, hts⟩ (ct_X3_treads l n g (pk3 (p0_paths, p0_water, p0_wall, p0_kind, p0_place, p0_facing, p0_age, p0_seeds, p0_season, p0_z, p0_spots) (p1_paths, p1_water, p1_wall, p1_kind, p1_place, p1_facing, p1_age, p1_seeds, p1_season, p1_z, p1_spots) (p2_paths, p2_water, p2_wall, p2_kind, p2_place, p2_facing, p2_age, p2_seeds, p2_season, p2_z, p2_spots), w_isKept, (t_bytes, t_length, t_sort, t_start, t_end, t_value), (h_numbers, h_bits, h_size), w_told) 0 (by decide) p0_paths p0_water p0_wall p0_kind p0_place p0_facing p0_age p0_seeds p0_season p0_z p0_spots rfl j3 hj4 q15 hq15) (cwV 0 hts gX6_of_X3_treads rfl rfl rfl hd_X3_treads ⟨Nat.le_of_ble_eq_true rfl, Nat.le_of_ble_eq_true rfl⟩) ⟨bl_C, va_recv hK hP (ci := 1) (q0 := (25 + 8 * 0 + j3)) rfl (e_sd (by decide) hj4 rfl (Q := (p0_paths, p0_water, p0_wall, p0_kind, p0_place, p0_facing, p0_age, p0_seeds, p0_season, p0_z, p0_spots))), pr_C rfl hB hP hS⟩ rfl rfl hl.1 rfl (lv_room (Nat.le_of_ble_eq_true rfl)) dX6_of_94 ⟨Nat.le_refl _, Nat.le_refl _⟩) rfl (fun hn16 => ?_)
                have hres : (q15, w_told) = res := (Option.some.inj hf)
                have hP := w_eq (congrArg (fun z => cw g (pk3 (p0_paths, p0_water, p0_wall, p0_kind, p0_place, p0_facing, p0_age, p0_seeds, p0_season, p0_z, p0_spots) (p1_paths, p1_water, p1_wall, p1_kind, p1_place, p1_facing, p1_age, p1_seeds, p1_season, p1_z, p1_spots) (p2_paths, p2_water, p2_wall, p2_kind, p2_place, p2_facing, p2_age, p2_seeds, p2_season, p2_z, p2_spots), w_isKept, (t_bytes, t_length, t_sort, t_start, t_end, t_value), (h_numbers, h_bits, h_size), z.2)) hres) hP
                exact W.iret (v := q15) hx hb hr (fun t ht hW => ⟨congrArg (fun z => Outcome.returned (some (Value.int z.1))) hres, trivial, by rw [ht]; exact hP, hS.F ht⟩) hS.2.2 dX6_of_97
              · have hf := (if_neg hc14).symm.trans hf
                by_cases hc17 : a2 = (6 : Int32)
                · have hf := (if_pos hc17).symm.trans hf
                  refine lv_tableIn (tgt := 98) hx hb dX6_of_20 (by rw [hc17]; decide) (by rw [hc17]; decide) (by rw [hc17]; rfl) (by decide) ?_
                  refine lv_aload_n hx hb dX6_of_98 rfl (lv_at hl 1 rfl) ?_
                  refine va_get (D := g.1) (ci := 4) (v := .ref (ga g (1 + 0))) (C := RX6) (T := TX6) (N := 7) hx hb hts iwX6 hown hK hP 0 q_sp rfl 0 (by decide) hw0 (fun _ h9 => h9) rfl dX6_of_99 ?_
                  refine lv_aload_n hx hb dX6_of_102 rfl (lv_at hl 0 rfl) ?_
                  obtain ⟨q18, hq18, hf⟩ := bd_some hf
                  refine kr_S (st1 := [.int q18]) (va_runV (As := [.ref (ga g (25 + 8 * 0 + j3))]) (rest := []) ⟨hx, hb, hml, hown, hts⟩ (ct_X2_turnOf l n g (pk3 (p0_paths, p0_water, p0_wall, p0_kind, p0_place, p0_facing, p0_age, p0_seeds, p0_season, p0_z, p0_spots) (p1_paths, p1_water, p1_wall, p1_kind, p1_place, p1_facing, p1_age, p1_seeds, p1_season, p1_z, p1_spots) (p2_paths, p2_water, p2_wall, p2_kind, p2_place, p2_facing, p2_age, p2_seeds, p2_season, p2_z, p2_spots), w_isKept, (t_bytes, t_length, t_sort, t_start, t_end, t_value), (h_numbers, h_bits, h_size), w_told) 0 (by decide) p0_paths p0_water p0_wall p0_kind p0_place p0_facing p0_age p0_seeds p0_season p0_z p0_spots rfl j3 hj4 q18 hq18) (cwV 1 hts gX6_of_X2_turnOf rfl rfl rfl hd_X2_turnOf ⟨Nat.le_of_ble_eq_true rfl, Nat.le_of_ble_eq_true rfl⟩) ⟨bl_C, va_recv hK hP (ci := 0) (q0 := (1 + 0)) rfl (e_pk (by decide) rfl (Q := (p0_paths, p0_water, p0_wall, p0_kind, p0_place, p0_facing, p0_age, p0_seeds, p0_season, p0_z, p0_spots))), pr_C rfl hB hP hS⟩ rfl rfl hl.1 rfl (lv_room (Nat.le_of_ble_eq_true rfl)) dX6_of_103 ⟨Nat.le_refl _, Nat.le_refl _⟩) rfl (fun hn19 => ?_)
                  have hres : (q18, w_told) = res := (Option.some.inj hf)
                  have hP := w_eq (congrArg (fun z => cw g (pk3 (p0_paths, p0_water, p0_wall, p0_kind, p0_place, p0_facing, p0_age, p0_seeds, p0_season, p0_z, p0_spots) (p1_paths, p1_water, p1_wall, p1_kind, p1_place, p1_facing, p1_age, p1_seeds, p1_season, p1_z, p1_spots) (p2_paths, p2_water, p2_wall, p2_kind, p2_place, p2_facing, p2_age, p2_seeds, p2_season, p2_z, p2_spots), w_isKept, (t_bytes, t_length, t_sort, t_start, t_end, t_value), (h_numbers, h_bits, h_size), z.2)) hres) hP
                  exact W.iret (v := q18) hx hb hr (fun t ht hW => ⟨congrArg (fun z => Outcome.returned (some (Value.int z.1))) hres, trivial, by rw [ht]; exact hP, hS.F ht⟩) hS.2.2 dX6_of_106
                · have hf := (if_neg hc17).symm.trans hf
                  by_cases hc20 : a2 = (7 : Int32)
                  · have hf := (if_pos hc20).symm.trans hf
                    refine lv_tableIn (tgt := 107) hx hb dX6_of_20 (by rw [hc20]; decide) (by rw [hc20]; decide) (by rw [hc20]; rfl) (by decide) ?_
                    refine lv_aload_n hx hb dX6_of_107 rfl (lv_at hl 0 rfl) ?_
                    obtain ⟨q21, hq21, hf⟩ := bd_some hf
                    refine kr_S (st1 := [.int q21]) (va_runV (As := []) (rest := []) ⟨hx, hb, hml, hown, hts⟩ (ct_X3_isAlive l n g (pk3 (p0_paths, p0_water, p0_wall, p0_kind, p0_place, p0_facing, p0_age, p0_seeds, p0_season, p0_z, p0_spots) (p1_paths, p1_water, p1_wall, p1_kind, p1_place, p1_facing, p1_age, p1_seeds, p1_season, p1_z, p1_spots) (p2_paths, p2_water, p2_wall, p2_kind, p2_place, p2_facing, p2_age, p2_seeds, p2_season, p2_z, p2_spots), w_isKept, (t_bytes, t_length, t_sort, t_start, t_end, t_value), (h_numbers, h_bits, h_size), w_told) 0 (by decide) p0_paths p0_water p0_wall p0_kind p0_place p0_facing p0_age p0_seeds p0_season p0_z p0_spots rfl j3 hj4 q21 hq21) (cwV 0 hts gX6_of_X3_isAlive rfl rfl rfl hd_X3_isAlive ⟨Nat.le_of_ble_eq_true rfl, Nat.le_of_ble_eq_true rfl⟩) ⟨bl_C, va_recv hK hP (ci := 1) (q0 := (25 + 8 * 0 + j3)) rfl (e_sd (by decide) hj4 rfl (Q := (p0_paths, p0_water, p0_wall, p0_kind, p0_place, p0_facing, p0_age, p0_seeds, p0_season, p0_z, p0_spots))), pr_C rfl hB hP hS⟩ rfl rfl hl.1 rfl (lv_room (Nat.le_of_ble_eq_true rfl)) dX6_of_108 ⟨Nat.le_refl _, Nat.le_refl _⟩) rfl (fun hn22 => ?_)
                    refine lv_if_eq (tgt := 118) hx hb dX6_of_111 (by decide) (fun hc23 => ?_) (fun hc23 => ?_)
                    · have hf := (if_pos hc23).symm.trans hf
                      refine lv_iconst (v := (0 : Int32)) hx hb dX6_of_118 (by decide) ?_
                      have hres : ((0 : Int32), w_told) = res := (Option.some.inj hf)
                      have hP := w_eq (congrArg (fun z => cw g (pk3 (p0_paths, p0_water, p0_wall, p0_kind, p0_place, p0_facing, p0_age, p0_seeds, p0_season, p0_z, p0_spots) (p1_paths, p1_water, p1_wall, p1_kind, p1_place, p1_facing, p1_age, p1_seeds, p1_season, p1_z, p1_spots) (p2_paths, p2_water, p2_wall, p2_kind, p2_place, p2_facing, p2_age, p2_seeds, p2_season, p2_z, p2_spots), w_isKept, (t_bytes, t_length, t_sort, t_start, t_end, t_value), (h_numbers, h_bits, h_size), z.2)) hres) hP
                      exact W.iret (v := (0 : Int32)) hx hb hr (fun t ht hW => ⟨congrArg (fun z => Outcome.returned (some (Value.int z.1))) hres, trivial, by rw [ht]; exact hP, hS.F ht⟩) hS.2.2 dX6_of_119
                    · have hf := (if_neg hc23).symm.trans hf
                      refine lv_iconst (v := (1 : Int32)) hx hb dX6_of_114 (by decide) ?_
                      refine lv_goto (tgt := 119) hx hb dX6_of_115 (by decide) ?_
                      have hres : ((1 : Int32), w_told) = res := (Option.some.inj hf)
                      have hP := w_eq (congrArg (fun z => cw g (pk3 (p0_paths, p0_water, p0_wall, p0_kind, p0_place, p0_facing, p0_age, p0_seeds, p0_season, p0_z, p0_spots) (p1_paths, p1_water, p1_wall, p1_kind, p1_place, p1_facing, p1_age, p1_seeds, p1_season, p1_z, p1_spots) (p2_paths, p2_water, p2_wall, p2_kind, p2_place, p2_facing, p2_age, p2_seeds, p2_season, p2_z, p2_spots), w_isKept, (t_bytes, t_length, t_sort, t_start, t_end, t_value), (h_numbers, h_bits, h_size), z.2)) hres) hP
                      exact W.iret (v := (1 : Int32)) hx hb hr (fun t ht hW => ⟨congrArg (fun z => Outcome.returned (some (Value.int z.1))) hres, trivial, by rw [ht]; exact hP, hS.F ht⟩) hS.2.2 dX6_of_119
                  · have hf := (if_neg hc20).symm.trans hf
                    refine lv_tableOut (tgt := 120) hx hb dX6_of_20 (by have := lv_neT (a := 0) hc7 rfl; have := lv_neT (a := 1) hc8 rfl; have := lv_neT (a := 2) hc9 rfl; have := lv_neT (a := 3) hc10 rfl; have := lv_neT (a := 4) hc11 rfl; have := lv_neT (a := 5) hc14 rfl; have := lv_neT (a := 6) hc17 rfl; have := lv_neT (a := 7) hc20 rfl; omega) (by decide) ?_
                    refine lv_aload_n hx hb dX6_of_120 rfl (lv_at hl 1 rfl) ?_
                    refine lv_iconst (v := (0 : Int32)) hx hb dX6_of_121 (by decide) ?_
                    obtain ⟨q24, hq24, hf⟩ := bd_some hf
                    refine kr_W (st1 := [.int q24.1]) (va_runV (As := [.int (0 : Int32)]) (rest := []) ⟨hx, hb, hml, hown, hts⟩ (ct_X6_finding l n g p0_paths p0_water p0_wall p0_kind p0_place p0_facing p0_age p0_seeds p0_season p0_z p0_spots p1_paths p1_water p1_wall p1_kind p1_place p1_facing p1_age p1_seeds p1_season p1_z p1_spots p2_paths p2_water p2_wall p2_kind p2_place p2_facing p2_age p2_seeds p2_season p2_z p2_spots t_bytes t_length t_sort t_start t_end t_value h_numbers h_bits h_size w_isKept w_told (0 : Int32) q24 hq24) (cwV 1 hts gX6_of_X6_finding rfl rfl rfl hd_X6_finding ⟨Nat.le_of_ble_eq_true rfl, Nat.le_of_ble_eq_true rfl⟩) ⟨bl_C, va_recv hK hP (ci := 4) (q0 := 0) rfl q_sp, pr_C rfl hB hP hS⟩ rfl rfl hl.1 rfl (lv_room (Nat.le_of_ble_eq_true rfl)) dX6_of_122 ⟨Nat.le_refl _, Nat.le_refl _⟩) hS rfl (fun hn25 H locs hP hS => ?_)
                    have hP : va_P g.1 vwCl (cw g (pk3 (p0_paths, p0_water, p0_wall, p0_kind, p0_place, p0_facing, p0_age, p0_seeds, p0_season, p0_z, p0_spots) (p1_paths, p1_water, p1_wall, p1_kind, p1_place, p1_facing, p1_age, p1_seeds, p1_season, p1_z, p1_spots) (p2_paths, p2_water, p2_wall, p2_kind, p2_place, p2_facing, p2_age, p2_seeds, p2_season, p2_z, p2_spots), w_isKept, (t_bytes, t_length, t_sort, t_start, t_end, t_value), (h_numbers, h_bits, h_size), q24.2)) H := hP
                    have hres : (q24.1, q24.2) = res := (Option.some.inj hf)
                    have hP := w_eq (congrArg (fun z => cw g (pk3 (p0_paths, p0_water, p0_wall, p0_kind, p0_place, p0_facing, p0_age, p0_seeds, p0_season, p0_z, p0_spots) (p1_paths, p1_water, p1_wall, p1_kind, p1_place, p1_facing, p1_age, p1_seeds, p1_season, p1_z, p1_spots) (p2_paths, p2_water, p2_wall, p2_kind, p2_place, p2_facing, p2_age, p2_seeds, p2_season, p2_z, p2_spots), w_isKept, (t_bytes, t_length, t_sort, t_start, t_end, t_value), (h_numbers, h_bits, h_size), z.2)) hres) hP
                    exact W.iret (v := q24.1) hx hb hr (fun t ht hW => ⟨congrArg (fun z => Outcome.returned (some (Value.int z.1))) hres, trivial, by rw [ht]; exact hP, hS.F ht⟩) hS.2.2 dX6_of_125
