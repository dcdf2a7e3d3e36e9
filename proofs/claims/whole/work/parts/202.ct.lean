/-! CONTRACTS, by program -/
set_option maxHeartbeats 4000000 in
set_option maxRecDepth 100000 in
theorem ct_X3_takes (l : Launch) (n : Nat) (a0 : Int32) (a1 : Int32) (res : Int32) (hf : fX3_takes n a0 a1 = some res) : Met l yX3_takes wsX3_takes ({ frames := 2, cells := 0, slots := 0, locals := 42 }) (va_Pc [.int a0, .int a1] NW) (qS (some (.int res)) (narrow .boolean (.int res) = .int res)) 0 0 (fun _ => False) := by
  refine Met.ofW (cc := cX3_takes) (maxL := 2) (ret := (some .boolean)) (by decide) rfl ?_
  intro p e s m args below meth c s₁ B hml hv
  obtain ⟨rfl, hI⟩ := hv
  have hx := B.exec
  have hb := B.bytes
  have hr := B.returns
  have hts := atoms_spec (ws := wsX3_takes) B.pre
  have hown : s.vm.findClass RX3 = some m.cls := findClass_of_methodNamed B.named
  have hlocks := B.notSynchronized
  have hNW : NW s := hI
  have hw0 := hts (.initialized RX6) (by decide +kernel)
  have hw1 := hts (.static yX6_isKind) (by decide +kernel)
  have hw2 := hts (.static yX6_isCell) (by decide +kernel)
  have hw3 := hts (.static yX6_isHeading) (by decide +kernel)
  have hw4 := hts (.static yX6_within) (by decide +kernel)
  have hl := lv_entry ([.int a0, .int a1]) (n := 2) (Nat.le_of_ble_eq_true rfl)
  rw [lg_entry_eq]
  generalize (lg_sl ([.int a0, .int a1]) ++ List.replicate (2 - (lg_sl ([.int a0, .int a1])).length) Slot.unset).toArray = ls at hl ⊢
  have hl : lv_has ls 2 [(0, .int a0), (1, .int a1)] := hl
  unfold fX3_takes at hf
  refine lv_iload_n hx hb dX3_takes_0 rfl (lv_at hl 0 rfl) ?_
  by_cases hc1 : a0 = (0 : Int32)
  · have hf := (if_pos hc1).symm.trans hf
    refine lv_tableIn (tgt := 32) hx hb dX3_takes_1 (by rw [hc1]; decide) (by rw [hc1]; decide) (by rw [hc1]; rfl) (by decide) ?_
    refine lv_iload_n hx hb dX3_takes_32 rfl (lv_at hl 1 rfl) ?_
    obtain ⟨q2, hq2, hf⟩ := bd_some hf
    refine kr_S (st1 := [.int q2]) (va_runSN (As := [.int a1]) (rest := []) ⟨hx, hb, hml, hown, hts⟩ (ct_X6_isKind l n a1 q2 hq2) (⟨va_cnB 1 hts gX3_takes_X6_isKind_n24 rfl rfl rfl (ml_X3_24 hNW) hw0 hn_X6_isKind ⟨Nat.le_of_ble_eq_true rfl, Nat.le_of_ble_eq_true rfl⟩, hw1, trivial⟩) ⟨bl_N, pr_N rfl hNW⟩ rfl rfl hl.1 rfl (lv_room (Nat.le_of_ble_eq_true rfl)) dX3_takes_33 ⟨Nat.le_refl _, Nat.le_refl _⟩) rfl (fun hn3 => ?_)
    have hres : q2 = res := (Option.some.inj hf)
    have hnr : narrow .boolean (.int q2) = .int q2 := hn3
    exact W.zret (v := q2) hx hb hr hnr (fun t ht hW => ⟨congrArg (fun z => Outcome.returned (some (Value.int z))) hres, Eq.mp (congrArg (fun z => narrow .boolean (.int z) = .int z) hres) hnr, ht⟩) t_nil dX3_takes_36
  · have hf := (if_neg hc1).symm.trans hf
    by_cases hc4 : a0 = (1 : Int32)
    · have hf := (if_pos hc4).symm.trans hf
      refine lv_tableIn (tgt := 37) hx hb dX3_takes_1 (by rw [hc4]; decide) (by rw [hc4]; decide) (by rw [hc4]; rfl) (by decide) ?_
      refine lv_iload_n hx hb dX3_takes_37 rfl (lv_at hl 1 rfl) ?_
      obtain ⟨q5, hq5, hf⟩ := bd_some hf
      refine kr_S (st1 := [.int q5]) (va_runSN (As := [.int a1]) (rest := []) ⟨hx, hb, hml, hown, hts⟩ (ct_X6_isCell l n a1 q5 hq5) (⟨va_cnB 1 hts gX3_takes_X6_isCell_n28 rfl rfl rfl (ml_X3_28 hNW) hw0 hn_X6_isCell ⟨Nat.le_of_ble_eq_true rfl, Nat.le_of_ble_eq_true rfl⟩, hw2, trivial⟩) ⟨bl_N, pr_N rfl hNW⟩ rfl rfl hl.1 rfl (lv_room (Nat.le_of_ble_eq_true rfl)) dX3_takes_38 ⟨Nat.le_refl _, Nat.le_refl _⟩) rfl (fun hn6 => ?_)
      have hres : q5 = res := (Option.some.inj hf)
      have hnr : narrow .boolean (.int q5) = .int q5 := hn6
      exact W.zret (v := q5) hx hb hr hnr (fun t ht hW => ⟨congrArg (fun z => Outcome.returned (some (Value.int z))) hres, Eq.mp (congrArg (fun z => narrow .boolean (.int z) = .int z) hres) hnr, ht⟩) t_nil dX3_takes_41
    · have hf := (if_neg hc4).symm.trans hf
      by_cases hc7 : a0 = (2 : Int32)
      · have hf := (if_pos hc7).symm.trans hf
        refine lv_tableIn (tgt := 42) hx hb dX3_takes_1 (by rw [hc7]; decide) (by rw [hc7]; decide) (by rw [hc7]; rfl) (by decide) ?_
        refine lv_iload_n hx hb dX3_takes_42 rfl (lv_at hl 1 rfl) ?_
        obtain ⟨q8, hq8, hf⟩ := bd_some hf
        refine kr_S (st1 := [.int q8]) (va_runSN (As := [.int a1]) (rest := []) ⟨hx, hb, hml, hown, hts⟩ (ct_X6_isHeading l n a1 q8 hq8) (⟨va_cnB 1 hts gX3_takes_X6_isHeading_n31 rfl rfl rfl (ml_X3_31 hNW) hw0 hn_X6_isHeading ⟨Nat.le_of_ble_eq_true rfl, Nat.le_of_ble_eq_true rfl⟩, hw3, trivial⟩) ⟨bl_N, pr_N rfl hNW⟩ rfl rfl hl.1 rfl (lv_room (Nat.le_of_ble_eq_true rfl)) dX3_takes_43 ⟨Nat.le_refl _, Nat.le_refl _⟩) rfl (fun hn9 => ?_)
        have hres : q8 = res := (Option.some.inj hf)
        have hnr : narrow .boolean (.int q8) = .int q8 := hn9
        exact W.zret (v := q8) hx hb hr hnr (fun t ht hW => ⟨congrArg (fun z => Outcome.returned (some (Value.int z))) hres, Eq.mp (congrArg (fun z => narrow .boolean (.int z) = .int z) hres) hnr, ht⟩) t_nil dX3_takes_46
      · have hf := (if_neg hc7).symm.trans hf
        by_cases hc10 : a0 = (3 : Int32)
        · have hf := (if_pos hc10).symm.trans hf
          refine lv_tableIn (tgt := 47) hx hb dX3_takes_1 (by rw [hc10]; decide) (by rw [hc10]; decide) (by rw [hc10]; rfl) (by decide) ?_
          refine lv_iload_n hx hb dX3_takes_47 rfl (lv_at hl 1 rfl) ?_
          refine lv_iconst (v := (0 : Int32)) hx hb dX3_takes_48 (by decide) ?_
          refine lv_sipush (v := (999 : Int32)) hx hb dX3_takes_49 (by decide) ?_
          obtain ⟨q11, hq11, hf⟩ := bd_some hf
          refine kr_S (st1 := [.int q11]) (va_runSN (As := [.int a1, .int (0 : Int32), .int (999 : Int32)]) (rest := []) ⟨hx, hb, hml, hown, hts⟩ (ct_X6_within l n a1 (0 : Int32) (999 : Int32) q11 hq11) (⟨va_cnB 3 hts gX3_takes_X6_within_n34 rfl rfl rfl (ml_X3_34 hNW) hw0 hn_X6_within ⟨Nat.le_of_ble_eq_true rfl, Nat.le_of_ble_eq_true rfl⟩, hw4, trivial⟩) ⟨bl_N, pr_N rfl hNW⟩ rfl rfl hl.1 rfl (lv_room (Nat.le_of_ble_eq_true rfl)) dX3_takes_52 ⟨Nat.le_refl _, Nat.le_refl _⟩) rfl (fun hn12 => ?_)
          have hres : q11 = res := (Option.some.inj hf)
          have hnr : narrow .boolean (.int q11) = .int q11 := hn12
          exact W.zret (v := q11) hx hb hr hnr (fun t ht hW => ⟨congrArg (fun z => Outcome.returned (some (Value.int z))) hres, Eq.mp (congrArg (fun z => narrow .boolean (.int z) = .int z) hres) hnr, ht⟩) t_nil dX3_takes_55
        · have hf := (if_neg hc10).symm.trans hf
          refine lv_tableOut (tgt := 56) hx hb dX3_takes_1 (by have := lv_neT (a := 0) hc1 rfl; have := lv_neT (a := 1) hc4 rfl; have := lv_neT (a := 2) hc7 rfl; have := lv_neT (a := 3) hc10 rfl; omega) (by decide) ?_
          refine lv_iconst (v := (0 : Int32)) hx hb dX3_takes_56 (by decide) ?_
          have hres : (0 : Int32) = res := (Option.some.inj hf)
          have hnr : narrow .boolean (.int (0 : Int32)) = .int (0 : Int32) := rfl
          exact W.zret (v := (0 : Int32)) hx hb hr hnr (fun t ht hW => ⟨congrArg (fun z => Outcome.returned (some (Value.int z))) hres, Eq.mp (congrArg (fun z => narrow .boolean (.int z) = .int z) hres) hnr, ht⟩) t_nil dX3_takes_57
set_option maxHeartbeats 4000000 in
set_option maxRecDepth 100000 in
theorem ct_X3_replace (l : Launch) (n : Nat) (g : GC) (S : PK → CS) (k : Nat) (hk : k < 3) (hL : zP k S) (f_paths : Nat → Int32) (f_water : Int64) (f_wall : Int64) (f_kind : Nat → Int32) (f_place : Nat → Int32) (f_facing : Nat → Int32) (f_age : Nat → Int32) (f_seeds : Int32) (f_season : Int32) (f_z : Int32) (f_spots : Nat → Int32) (j : Nat) (hj : j < 8) (a1 : Int32) (a2 : Int32) (res : Int32 × (Nat → Int32) × (Nat → Int32) × (Nat → Int32) × (Nat → Int32)) (hf : fX3_replace n j a1 a2 f_kind f_place f_facing f_age = some res) : Met l yX3_replace wsX3_replace ({ frames := 0, cells := 0, slots := 0, locals := 0 }) (va_Pc [.ref (ga g (25 + 8 * k + j)), .int a1, .int a2] (cI g (S (f_paths, f_water, f_wall, f_kind, f_place, f_facing, f_age, f_seeds, f_season, f_z, f_spots)))) (qW (some (.int res.1)) True g.1 (cw g (S (f_paths, f_water, f_wall, res.2.1, res.2.2.1, res.2.2.2.1, res.2.2.2.2, f_seeds, f_season, f_z, f_spots))) (gA g)) 0 0 (gA g) := by
  refine Met.ofW (cc := cX3_replace) (maxL := 4) (ret := (some .int)) (by decide) rfl ?_
  intro p e s m args below meth c s₁ B hml hv
  obtain ⟨rfl, hI⟩ := hv
  have hx := B.exec
  have hb := B.bytes
  have hr := B.returns
  have hts := atoms_spec (ws := wsX3_replace) B.pre
  have hown : s.vm.findClass RX3 = some m.cls := findClass_of_methodNamed B.named
  have hlocks := B.notSynchronized
  have hP := hI.1
  have hB := hI.2
  have hK := hB.1
  have hNW := hB.2.1
  have hS : va_S (gA g) s.heap s.heap [] := va_S.rf
  have hw0 := hts (.fieldLink RX3 9 "SownPaths$Seed" "kind" "I") (by decide +kernel)
  have hw1 := hts (.fieldLink RX3 15 "SownPaths$Seed" "place" "I") (by decide +kernel)
  have hw2 := hts (.fieldLink RX3 18 "SownPaths$Seed" "facing" "I") (by decide +kernel)
  have hw3 := hts (.fieldLink RX3 21 "SownPaths$Seed" "age" "I") (by decide +kernel)
  have iwX3 : ∀ w ∈ wsX30, w ∈ wsX3_replace := fun w h => List.mem_cons_of_mem _ (List.mem_append_right _ h)
  have hl := lv_entry ([.ref (ga g (25 + 8 * k + j)), .int a1, .int a2]) (n := 4) (Nat.le_of_ble_eq_true rfl)
  rw [lg_entry_eq]
  generalize (lg_sl ([.ref (ga g (25 + 8 * k + j)), .int a1, .int a2]) ++ List.replicate (4 - (lg_sl ([.ref (ga g (25 + 8 * k + j)), .int a1, .int a2])).length) Slot.unset).toArray = ls at hl ⊢
  have hl : lv_has ls 4 [(0, .ref (ga g (25 + 8 * k + j))), (1, .int a1), (2, .int a2)] := hl
  unfold fX3_replace at hf
  refine lv_iload_n hx hb dX3_replace_0 rfl (lv_at hl 1 rfl) ?_
  by_cases hc1 : a1 = (0 : Int32)
  · have hf := (if_pos hc1).symm.trans hf
    refine lv_tableIn (tgt := 28) hx hb dX3_replace_1 (by rw [hc1]; decide) (by rw [hc1]; decide) (by rw [hc1]; rfl) (by decide) ?_
    refine lv_aload_n hx hb dX3_replace_28 rfl (lv_at hl 0 rfl) ?_
    refine va_get (D := g.1) (ci := 1) (v := .int (f_kind j)) (C := RX3) (T := TX3) (N := 4) hx hb hts iwX3 hown hK hP (25 + 8 * k + j) (e_sd hk hj (hL.1 _) (Q := (f_paths, f_water, f_wall, f_kind, f_place, f_facing, f_age, f_seeds, f_season, f_z, f_spots))) rfl 0 (by decide) hw0 (fun _ h9 => h9) rfl dX3_replace_29 ?_
    refine lv_istore_n (lv' := [(3, .int (f_kind j)), (0, .ref (ga g (25 + 8 * k + j))), (1, .int a1), (2, .int a2)]) hx hb dX3_replace_32 rfl hl (by decide) rfl (fun ls hl => ?_)
    refine lv_aload_n hx hb dX3_replace_33 rfl (lv_at hl 1 rfl) ?_
    refine lv_iload_n hx hb dX3_replace_34 rfl (lv_at hl 3 rfl) ?_
    refine va_put (D := g.1) (ci := 1) (v := .int a2) (ty := .int) (C := RX3) (T := TX3) (N := 4) hx hb hts iwX3 tyX3 tyX3_ok nmX3 hown hK hP (cD hB.2.2.1 _) hS (25 + 8 * k + j) (e_sd hk hj (hL.1 _) (Q := (f_paths, f_water, f_wall, f_kind, f_place, f_facing, f_age, f_seeds, f_season, f_z, f_spots))) rfl 0 (by decide) hw0 (fun _ h9 => h9) rfl (tyX3_ok 0 (by decide)) rfl rfl (Nat.le_of_ble_eq_true rfl) dX3_replace_35 (fun H locs hP _ hS => ?_)
    have hP : va_P g.1 vwCl (cw g (S (f_paths, f_water, f_wall, (upd f_kind j a2), f_place, f_facing, f_age, f_seeds, f_season, f_z, f_spots))) H := w_eq (s_kind (S := S) (P := (f_paths, f_water, f_wall, f_kind, f_place, f_facing, f_age, f_seeds, f_season, f_z, f_spots)) a2 hk hj hL) hP
    refine lv_iload_n hx hb dX3_replace_38 rfl (lv_at hl 0 rfl) ?_
    have hres : ((f_kind j), (upd f_kind j a2), f_place, f_facing, f_age) = res := (Option.some.inj hf)
    have hP := w_eq (congrArg (fun z => cw g (S (f_paths, f_water, f_wall, z.2.1, z.2.2.1, z.2.2.2.1, z.2.2.2.2, f_seeds, f_season, f_z, f_spots))) hres) hP
    exact W.iret (v := (f_kind j)) hx hb hr (fun t ht hW => ⟨congrArg (fun z => Outcome.returned (some (Value.int z.1))) hres, trivial, by rw [ht]; exact hP, hS.F ht⟩) hS.2.2 dX3_replace_39
  · have hf := (if_neg hc1).symm.trans hf
    by_cases hc2 : a1 = (1 : Int32)
    · have hf := (if_pos hc2).symm.trans hf
      refine lv_tableIn (tgt := 40) hx hb dX3_replace_1 (by rw [hc2]; decide) (by rw [hc2]; decide) (by rw [hc2]; rfl) (by decide) ?_
      refine lv_aload_n hx hb dX3_replace_40 rfl (lv_at hl 0 rfl) ?_
      refine va_get (D := g.1) (ci := 1) (v := .int (f_place j)) (C := RX3) (T := TX3) (N := 4) hx hb hts iwX3 hown hK hP (25 + 8 * k + j) (e_sd hk hj (hL.1 _) (Q := (f_paths, f_water, f_wall, f_kind, f_place, f_facing, f_age, f_seeds, f_season, f_z, f_spots))) rfl 1 (by decide) hw1 (fun _ h9 => h9) rfl dX3_replace_41 ?_
      refine lv_istore_n (lv' := [(3, .int (f_place j)), (0, .ref (ga g (25 + 8 * k + j))), (1, .int a1), (2, .int a2)]) hx hb dX3_replace_44 rfl hl (by decide) rfl (fun ls hl => ?_)
      refine lv_aload_n hx hb dX3_replace_45 rfl (lv_at hl 1 rfl) ?_
      refine lv_iload_n hx hb dX3_replace_46 rfl (lv_at hl 3 rfl) ?_
      refine va_put (D := g.1) (ci := 1) (v := .int a2) (ty := .int) (C := RX3) (T := TX3) (N := 4) hx hb hts iwX3 tyX3 tyX3_ok nmX3 hown hK hP (cD hB.2.2.1 _) hS (25 + 8 * k + j) (e_sd hk hj (hL.1 _) (Q := (f_paths, f_water, f_wall, f_kind, f_place, f_facing, f_age, f_seeds, f_season, f_z, f_spots))) rfl 1 (by decide) hw1 (fun _ h9 => h9) rfl (tyX3_ok 1 (by decide)) rfl rfl (Nat.le_of_ble_eq_true rfl) dX3_replace_47 (fun H locs hP _ hS => ?_)
      have hP : va_P g.1 vwCl (cw g (S (f_paths, f_water, f_wall, f_kind, (upd f_place j a2), f_facing, f_age, f_seeds, f_season, f_z, f_spots))) H := w_eq (s_place (S := S) (P := (f_paths, f_water, f_wall, f_kind, f_place, f_facing, f_age, f_seeds, f_season, f_z, f_spots)) a2 hk hj hL) hP
      refine lv_iload_n hx hb dX3_replace_50 rfl (lv_at hl 0 rfl) ?_
      have hres : ((f_place j), f_kind, (upd f_place j a2), f_facing, f_age) = res := (Option.some.inj hf)
      have hP := w_eq (congrArg (fun z => cw g (S (f_paths, f_water, f_wall, z.2.1, z.2.2.1, z.2.2.2.1, z.2.2.2.2, f_seeds, f_season, f_z, f_spots))) hres) hP
      exact W.iret (v := (f_place j)) hx hb hr (fun t ht hW => ⟨congrArg (fun z => Outcome.returned (some (Value.int z.1))) hres, trivial, by rw [ht]; exact hP, hS.F ht⟩) hS.2.2 dX3_replace_51
    · have hf := (if_neg hc2).symm.trans hf
      by_cases hc3 : a1 = (2 : Int32)
      · have hf := (if_pos hc3).symm.trans hf
        refine lv_tableIn (tgt := 52) hx hb dX3_replace_1 (by rw [hc3]; decide) (by rw [hc3]; decide) (by rw [hc3]; rfl) (by decide) ?_
        refine lv_aload_n hx hb dX3_replace_52 rfl (lv_at hl 0 rfl) ?_
        refine va_get (D := g.1) (ci := 1) (v := .int (f_facing j)) (C := RX3) (T := TX3) (N := 4) hx hb hts iwX3 hown hK hP (25 + 8 * k + j) (e_sd hk hj (hL.1 _) (Q := (f_paths, f_water, f_wall, f_kind, f_place, f_facing, f_age, f_seeds, f_season, f_z, f_spots))) rfl 2 (by decide) hw2 (fun _ h9 => h9) rfl dX3_replace_53 ?_
        refine lv_istore_n (lv' := [(3, .int (f_facing j)), (0, .ref (ga g (25 + 8 * k + j))), (1, .int a1), (2, .int a2)]) hx hb dX3_replace_56 rfl hl (by decide) rfl (fun ls hl => ?_)
        refine lv_aload_n hx hb dX3_replace_57 rfl (lv_at hl 1 rfl) ?_
        refine lv_iload_n hx hb dX3_replace_58 rfl (lv_at hl 3 rfl) ?_
        refine va_put (D := g.1) (ci := 1) (v := .int a2) (ty := .int) (C := RX3) (T := TX3) (N := 4) hx hb hts iwX3 tyX3 tyX3_ok nmX3 hown hK hP (cD hB.2.2.1 _) hS (25 + 8 * k + j) (e_sd hk hj (hL.1 _) (Q := (f_paths, f_water, f_wall, f_kind, f_place, f_facing, f_age, f_seeds, f_season, f_z, f_spots))) rfl 2 (by decide) hw2 (fun _ h9 => h9) rfl (tyX3_ok 2 (by decide)) rfl rfl (Nat.le_of_ble_eq_true rfl) dX3_replace_59 (fun H locs hP _ hS => ?_)
        have hP : va_P g.1 vwCl (cw g (S (f_paths, f_water, f_wall, f_kind, f_place, (upd f_facing j a2), f_age, f_seeds, f_season, f_z, f_spots))) H := w_eq (s_facing (S := S) (P := (f_paths, f_water, f_wall, f_kind, f_place, f_facing, f_age, f_seeds, f_season, f_z, f_spots)) a2 hk hj hL) hP
        refine lv_iload_n hx hb dX3_replace_62 rfl (lv_at hl 0 rfl) ?_
        have hres : ((f_facing j), f_kind, f_place, (upd f_facing j a2), f_age) = res := (Option.some.inj hf)
        have hP := w_eq (congrArg (fun z => cw g (S (f_paths, f_water, f_wall, z.2.1, z.2.2.1, z.2.2.2.1, z.2.2.2.2, f_seeds, f_season, f_z, f_spots))) hres) hP
        exact W.iret (v := (f_facing j)) hx hb hr (fun t ht hW => ⟨congrArg (fun z => Outcome.returned (some (Value.int z.1))) hres, trivial, by rw [ht]; exact hP, hS.F ht⟩) hS.2.2 dX3_replace_63
      · have hf := (if_neg hc3).symm.trans hf
        refine lv_tableOut (tgt := 64) hx hb dX3_replace_1 (by have := lv_neT (a := 0) hc1 rfl; have := lv_neT (a := 1) hc2 rfl; have := lv_neT (a := 2) hc3 rfl; omega) (by decide) ?_
        refine lv_aload_n hx hb dX3_replace_64 rfl (lv_at hl 0 rfl) ?_
        refine va_get (D := g.1) (ci := 1) (v := .int (f_age j)) (C := RX3) (T := TX3) (N := 4) hx hb hts iwX3 hown hK hP (25 + 8 * k + j) (e_sd hk hj (hL.1 _) (Q := (f_paths, f_water, f_wall, f_kind, f_place, f_facing, f_age, f_seeds, f_season, f_z, f_spots))) rfl 3 (by decide) hw3 (fun _ h9 => h9) rfl dX3_replace_65 ?_
        refine lv_istore_n (lv' := [(3, .int (f_age j)), (0, .ref (ga g (25 + 8 * k + j))), (1, .int a1), (2, .int a2)]) hx hb dX3_replace_68 rfl hl (by decide) rfl (fun ls hl => ?_)
        refine lv_aload_n hx hb dX3_replace_69 rfl (lv_at hl 1 rfl) ?_
        refine lv_iload_n hx hb dX3_replace_70 rfl (lv_at hl 3 rfl) ?_
        refine va_put (D := g.1) (ci := 1) (v := .int a2) (ty := .int) (C := RX3) (T := TX3) (N := 4) hx hb hts iwX3 tyX3 tyX3_ok nmX3 hown hK hP (cD hB.2.2.1 _) hS (25 + 8 * k + j) (e_sd hk hj (hL.1 _) (Q := (f_paths, f_water, f_wall, f_kind, f_place, f_facing, f_age, f_seeds, f_season, f_z, f_spots))) rfl 3 (by decide) hw3 (fun _ h9 => h9) rfl (tyX3_ok 3 (by decide)) rfl rfl (Nat.le_of_ble_eq_true rfl) dX3_replace_71 (fun H locs hP _ hS => ?_)
        have hP : va_P g.1 vwCl (cw g (S (f_paths, f_water, f_wall, f_kind, f_place, f_facing, (upd f_age j a2), f_seeds, f_season, f_z, f_spots))) H := w_eq (s_age (S := S) (P := (f_paths, f_water, f_wall, f_kind, f_place, f_facing, f_age, f_seeds, f_season, f_z, f_spots)) a2 hk hj hL) hP
        refine lv_iload_n hx hb dX3_replace_74 rfl (lv_at hl 0 rfl) ?_
        have hres : ((f_age j), f_kind, f_place, f_facing, (upd f_age j a2)) = res := (Option.some.inj hf)
        have hP := w_eq (congrArg (fun z => cw g (S (f_paths, f_water, f_wall, z.2.1, z.2.2.1, z.2.2.2.1, z.2.2.2.2, f_seeds, f_season, f_z, f_spots))) hres) hP
        exact W.iret (v := (f_age j)) hx hb hr (fun t ht hW => ⟨congrArg (fun z => Outcome.returned (some (Value.int z.1))) hres, trivial, by rw [ht]; exact hP, hS.F ht⟩) hS.2.2 dX3_replace_75
set_option maxHeartbeats 4000000 in
set_option maxRecDepth 100000 in
theorem ct_X6_change (l : Launch) (n : Nat) (g : GC) (p0_paths : Nat → Int32) (p0_water : Int64) (p0_wall : Int64) (p0_kind : Nat → Int32) (p0_place : Nat → Int32) (p0_facing : Nat → Int32) (p0_age : Nat → Int32) (p0_seeds : Int32) (p0_season : Int32) (p0_z : Int32) (p0_spots : Nat → Int32) (p1_paths : Nat → Int32) (p1_water : Int64) (p1_wall : Int64) (p1_kind : Nat → Int32) (p1_place : Nat → Int32) (p1_facing : Nat → Int32) (p1_age : Nat → Int32) (p1_seeds : Int32) (p1_season : Int32) (p1_z : Int32) (p1_spots : Nat → Int32) (p2_paths : Nat → Int32) (p2_water : Int64) (p2_wall : Int64) (p2_kind : Nat → Int32) (p2_place : Nat → Int32) (p2_facing : Nat → Int32) (p2_age : Nat → Int32) (p2_seeds : Int32) (p2_season : Int32) (p2_z : Int32) (p2_spots : Nat → Int32) (t_bytes : Nat → Int32) (t_length : Int32) (t_sort : Int32) (t_start : Int32) (t_end : Int32) (t_value : Int32) (h_numbers : Nat → Nat → Int32) (h_bits : Nat → Int32) (h_size : Nat → Int32) (w_isKept : Int32) (w_told : Nat → Int32) (a1 : Int32) (a2 : Int32) (a3 : Int32) (res : Int32 × (Nat → Int32) × (Nat → Int32) × (Nat → Int32) × (Nat → Int32) × (Nat → Int32)) (hf : fX6_change n a1 a2 a3 p0_kind p0_place p0_facing p0_age p0_seeds w_told = some res) : Met l yX6_change wsX6_change ({ frames := 3, cells := 0, slots := 0, locals := 63 }) (va_Pc [.ref (ga g 0), .int a1, .int a2, .int a3] (cI g (pk3 (p0_paths, p0_water, p0_wall, p0_kind, p0_place, p0_facing, p0_age, p0_seeds, p0_season, p0_z, p0_spots) (p1_paths, p1_water, p1_wall, p1_kind, p1_place, p1_facing, p1_age, p1_seeds, p1_season, p1_z, p1_spots) (p2_paths, p2_water, p2_wall, p2_kind, p2_place, p2_facing, p2_age, p2_seeds, p2_season, p2_z, p2_spots), w_isKept, (t_bytes, t_length, t_sort, t_start, t_end, t_value), (h_numbers, h_bits, h_size), w_told))) (qW (some (.int res.1)) True g.1 (cw g (pk3 (p0_paths, p0_water, p0_wall, res.2.1, res.2.2.1, res.2.2.2.1, res.2.2.2.2.1, p0_seeds, p0_season, p0_z, p0_spots) (p1_paths, p1_water, p1_wall, p1_kind, p1_place, p1_facing, p1_age, p1_seeds, p1_season, p1_z, p1_spots) (p2_paths, p2_water, p2_wall, p2_kind, p2_place, p2_facing, p2_age, p2_seeds, p2_season, p2_z, p2_spots), w_isKept, (t_bytes, t_length, t_sort, t_start, t_end, t_value), (h_numbers, h_bits, h_size), res.2.2.2.2.2)) (gA g)) 0 0 (gA g) := by
  refine Met.ofW (cc := cX6_change) (maxL := 5) (ret := (some .int)) (by decide) rfl ?_
  intro p e s m args below meth c s₁ B hml hv
  obtain ⟨rfl, hI⟩ := hv
  have hx := B.exec
  have hb := B.bytes
  have hr := B.returns
  have hts := atoms_spec (ws := wsX6_change) B.pre
  have hown : s.vm.findClass RX6 = some m.cls := findClass_of_methodNamed B.named
  have hlocks := B.notSynchronized
  have hP := hI.1
  have hB := hI.2
  have hK := hB.1
  have hNW := hB.2.1
  have hS : va_S (gA g) s.heap s.heap [] := va_S.rf
  have hw0 := hts (.fieldLink RX6 10 "SownPaths" "park" "LSownPaths$Park;") (by decide +kernel)
  have iwX6 : ∀ w ∈ wsX60, w ∈ wsX6_change := fun w h => List.mem_cons_of_mem _ (List.mem_append_left _ (List.mem_append_left _ (List.mem_append_right _ h)))
  have hl := lv_entry ([.ref (ga g 0), .int a1, .int a2, .int a3]) (n := 5) (Nat.le_of_ble_eq_true rfl)
  rw [lg_entry_eq]
  generalize (lg_sl ([.ref (ga g 0), .int a1, .int a2, .int a3]) ++ List.replicate (5 - (lg_sl ([.ref (ga g 0), .int a1, .int a2, .int a3])).length) Slot.unset).toArray = ls at hl ⊢
  have hl : lv_has ls 5 [(0, .ref (ga g 0)), (1, .int a1), (2, .int a2), (3, .int a3)] := hl
  unfold fX6_change at hf
  refine lv_aload_n hx hb dX6_change_0 rfl (lv_at hl 0 rfl) ?_
  refine va_get (D := g.1) (ci := 4) (v := .ref (ga g (1 + 0))) (C := RX6) (T := TX6) (N := 7) hx hb hts iwX6 hown hK hP 0 q_sp rfl 0 (by decide) hw0 (fun _ h9 => h9) rfl dX6_change_1 ?_
  refine lv_iload_n hx hb dX6_change_4 rfl (lv_at hl 1 rfl) ?_
  obtain ⟨q1, hq1, hf⟩ := bd_some hf
  refine kr_S (st1 := [va_rf (Option.map (fun j => ga g (25 + 8 * 0 + j)) q1)]) (va_runV (As := [.int a1]) (rest := []) ⟨hx, hb, hml, hown, hts⟩ (ct_X2_seedAt l n g (pk3 (p0_paths, p0_water, p0_wall, p0_kind, p0_place, p0_facing, p0_age, p0_seeds, p0_season, p0_z, p0_spots) (p1_paths, p1_water, p1_wall, p1_kind, p1_place, p1_facing, p1_age, p1_seeds, p1_season, p1_z, p1_spots) (p2_paths, p2_water, p2_wall, p2_kind, p2_place, p2_facing, p2_age, p2_seeds, p2_season, p2_z, p2_spots), w_isKept, (t_bytes, t_length, t_sort, t_start, t_end, t_value), (h_numbers, h_bits, h_size), w_told) 0 (by decide) p0_paths p0_water p0_wall p0_kind p0_place p0_facing p0_age p0_seeds p0_season p0_z p0_spots rfl a1 q1 hq1) (cwV 1 hts gX6_change_X2_seedAt rfl rfl rfl hd_X2_seedAt ⟨Nat.le_of_ble_eq_true rfl, Nat.le_of_ble_eq_true rfl⟩) ⟨bl_C, va_recv hK hP (ci := 0) (q0 := (1 + 0)) rfl (e_pk (by decide) rfl (Q := (p0_paths, p0_water, p0_wall, p0_kind, p0_place, p0_facing, p0_age, p0_seeds, p0_season, p0_z, p0_spots))), pr_C rfl hB hP hS⟩ rfl rfl hl.1 rfl (lv_room (Nat.le_of_ble_eq_true rfl)) dX6_change_5 ⟨Nat.le_refl _, Nat.le_refl _⟩) rfl (fun hn2 => ?_)
  rcases q1 with _ | j3
  · have hf := eo_n hf
    refine W.eq (g2 := F0 m 8 ls [.null]) rfl ?_
    refine lv_astoreN (lv' := [(4, .null), (0, .ref (ga g 0)), (1, .int a1), (2, .int a2), (3, .int a3)]) hx hb dX6_change_8 hl (by decide) rfl (fun ls hl => ?_)
    refine lv_aloadN hx hb dX6_change_10 (lv_at hl 0 rfl) ?_
    refine lv_ifnullN (tgt := 23) hx hb dX6_change_12 (by decide) ?_
    refine lv_aload_n hx hb dX6_change_23 rfl (lv_at hl 1 rfl) ?_
    refine lv_iconst (v := (0 : Int32)) hx hb dX6_change_24 (by decide) ?_
    obtain ⟨q5, hq5, hf⟩ := bd_some hf
    refine kr_W (st1 := [.int q5.1]) (va_runV (As := [.int (0 : Int32)]) (rest := []) ⟨hx, hb, hml, hown, hts⟩ (ct_X6_finding l n g p0_paths p0_water p0_wall p0_kind p0_place p0_facing p0_age p0_seeds p0_season p0_z p0_spots p1_paths p1_water p1_wall p1_kind p1_place p1_facing p1_age p1_seeds p1_season p1_z p1_spots p2_paths p2_water p2_wall p2_kind p2_place p2_facing p2_age p2_seeds p2_season p2_z p2_spots t_bytes t_length t_sort t_start t_end t_value h_numbers h_bits h_size w_isKept w_told (0 : Int32) q5 hq5) (cwV 1 hts gX6_change_X6_finding rfl rfl rfl hd_X6_finding ⟨Nat.le_of_ble_eq_true rfl, Nat.le_of_ble_eq_true rfl⟩) ⟨bl_C, va_recv hK hP (ci := 4) (q0 := 0) rfl q_sp, pr_C rfl hB hP hS⟩ rfl rfl hl.1 rfl (lv_room (Nat.le_of_ble_eq_true rfl)) dX6_change_25 ⟨Nat.le_refl _, Nat.le_refl _⟩) hS rfl (fun hn6 H locs hP hS => ?_)
    have hP : va_P g.1 vwCl (cw g (pk3 (p0_paths, p0_water, p0_wall, p0_kind, p0_place, p0_facing, p0_age, p0_seeds, p0_season, p0_z, p0_spots) (p1_paths, p1_water, p1_wall, p1_kind, p1_place, p1_facing, p1_age, p1_seeds, p1_season, p1_z, p1_spots) (p2_paths, p2_water, p2_wall, p2_kind, p2_place, p2_facing, p2_age, p2_seeds, p2_season, p2_z, p2_spots), w_isKept, (t_bytes, t_length, t_sort, t_start, t_end, t_value), (h_numbers, h_bits, h_size), q5.2)) H := hP
    have hres : (q5.1, p0_kind, p0_place, p0_facing, p0_age, q5.2) = res := (Option.some.inj hf)
    have hP := w_eq (congrArg (fun z => cw g (pk3 (p0_paths, p0_water, p0_wall, z.2.1, z.2.2.1, z.2.2.2.1, z.2.2.2.2.1, p0_seeds, p0_season, p0_z, p0_spots) (p1_paths, p1_water, p1_wall, p1_kind, p1_place, p1_facing, p1_age, p1_seeds, p1_season, p1_z, p1_spots) (p2_paths, p2_water, p2_wall, p2_kind, p2_place, p2_facing, p2_age, p2_seeds, p2_season, p2_z, p2_spots), w_isKept, (t_bytes, t_length, t_sort, t_start, t_end, t_value), (h_numbers, h_bits, h_size), z.2.2.2.2.2)) hres) hP
    exact W.iret (v := q5.1) hx hb hr (fun t ht hW => ⟨congrArg (fun z => Outcome.returned (some (Value.int z.1))) hres, trivial, by rw [ht]; exact hP, hS.F ht⟩) hS.2.2 dX6_change_28
  · have hf := eo_s hf
    have hj4 := hn2 _ rfl
    refine W.eq (g2 := F0 m 8 ls [.ref (ga g (25 + 8 * 0 + j3))]) rfl ?_
    refine lv_astore (lv' := [(4, .ref (ga g (25 + 8 * 0 + j3))), (0, .ref (ga g 0)), (1, .int a1), (2, .int a2), (3, .int a3)]) hx hb dX6_change_8 hl (by decide) rfl (fun ls hl => ?_)
    refine lv_aload hx hb dX6_change_10 (lv_at hl 0 rfl) ?_
    refine lv_ifnull hx hb dX6_change_12 ?_
    refine lv_iload_n hx hb dX6_change_15 rfl (lv_at hl 3 rfl) ?_
    refine lv_iload_n hx hb dX6_change_16 rfl (lv_at hl 4 rfl) ?_
    obtain ⟨q7, hq7, hf⟩ := bd_some hf
    refine kr_S (st1 := [.int q7]) (va_runS (As := [.int a2, .int a3]) (rest := []) ⟨hx, hb, hml, hown, hts⟩ (ct_X3_takes l n a2 a3 q7 hq7) (va_cwS 2 hts gX6_change_X3_takes rfl rfl rfl hn_X3_takes ⟨Nat.le_of_ble_eq_true rfl, Nat.le_of_ble_eq_true rfl⟩) ⟨bl_N, pr_N rfl hNW⟩ rfl rfl hl.1 rfl (lv_room (Nat.le_of_ble_eq_true rfl)) dX6_change_17 ⟨Nat.le_refl _, Nat.le_refl _⟩) rfl (fun hn8 => ?_)
    refine lv_if_ne (tgt := 29) hx hb dX6_change_20 (by decide) (fun hc9 => ?_) (fun hc9 => ?_)
    · have hf := (if_neg hc9).symm.trans hf
      refine lv_aload hx hb dX6_change_29 (lv_at hl 0 rfl) ?_
      refine lv_iload_n hx hb dX6_change_31 rfl (lv_at hl 3 rfl) ?_
      refine lv_iload_n hx hb dX6_change_32 rfl (lv_at hl 4 rfl) ?_
      obtain ⟨q10, hq10, hf⟩ := bd_some hf
      refine kr_W (st1 := [.int q10.1]) (va_runV (As := [.int a2, .int a3]) (rest := []) ⟨hx, hb, hml, hown, hts⟩ (ct_X3_replace l n g (fun P => (pk3 P (p1_paths, p1_water, p1_wall, p1_kind, p1_place, p1_facing, p1_age, p1_seeds, p1_season, p1_z, p1_spots) (p2_paths, p2_water, p2_wall, p2_kind, p2_place, p2_facing, p2_age, p2_seeds, p2_season, p2_z, p2_spots), w_isKept, (t_bytes, t_length, t_sort, t_start, t_end, t_value), (h_numbers, h_bits, h_size), w_told)) 0 (by decide) zP0 p0_paths p0_water p0_wall p0_kind p0_place p0_facing p0_age p0_seeds p0_season p0_z p0_spots j3 hj4 a2 a3 q10 hq10) (cwV 2 hts gX6_change_X3_replace rfl rfl rfl hd_X3_replace ⟨Nat.le_of_ble_eq_true rfl, Nat.le_of_ble_eq_true rfl⟩) ⟨bl_C, va_recv hK hP (ci := 1) (q0 := (25 + 8 * 0 + j3)) rfl (e_sd (by decide) hj4 rfl (Q := (p0_paths, p0_water, p0_wall, p0_kind, p0_place, p0_facing, p0_age, p0_seeds, p0_season, p0_z, p0_spots))), pr_C rfl hB hP hS⟩ rfl rfl hl.1 rfl (lv_room (Nat.le_of_ble_eq_true rfl)) dX6_change_33 ⟨Nat.le_refl _, Nat.le_refl _⟩) hS rfl (fun hn11 H locs hP hS => ?_)
      have hP : va_P g.1 vwCl (cw g (pk3 (p0_paths, p0_water, p0_wall, q10.2.1, q10.2.2.1, q10.2.2.2.1, q10.2.2.2.2, p0_seeds, p0_season, p0_z, p0_spots) (p1_paths, p1_water, p1_wall, p1_kind, p1_place, p1_facing, p1_age, p1_seeds, p1_season, p1_z, p1_spots) (p2_paths, p2_water, p2_wall, p2_kind, p2_place, p2_facing, p2_age, p2_seeds, p2_season, p2_z, p2_spots), w_isKept, (t_bytes, t_length, t_sort, t_start, t_end, t_value), (h_numbers, h_bits, h_size), w_told)) H := hP
      have hres : (q10.1, q10.2.1, q10.2.2.1, q10.2.2.2.1, q10.2.2.2.2, w_told) = res := (Option.some.inj hf)
      have hP := w_eq (congrArg (fun z => cw g (pk3 (p0_paths, p0_water, p0_wall, z.2.1, z.2.2.1, z.2.2.2.1, z.2.2.2.2.1, p0_seeds, p0_season, p0_z, p0_spots) (p1_paths, p1_water, p1_wall, p1_kind, p1_place, p1_facing, p1_age, p1_seeds, p1_season, p1_z, p1_spots) (p2_paths, p2_water, p2_wall, p2_kind, p2_place, p2_facing, p2_age, p2_seeds, p2_season, p2_z, p2_spots), w_isKept, (t_bytes, t_length, t_sort, t_start, t_end, t_value), (h_numbers, h_bits, h_size), z.2.2.2.2.2)) hres) hP
      exact W.iret (v := q10.1) hx hb hr (fun t ht hW => ⟨congrArg (fun z => Outcome.returned (some (Value.int z.1))) hres, trivial, by rw [ht]; exact hP, hS.F ht⟩) hS.2.2 dX6_change_36
    · have hf := (if_pos hc9).symm.trans hf
      refine lv_aload_n hx hb dX6_change_23 rfl (lv_at hl 1 rfl) ?_
      refine lv_iconst (v := (0 : Int32)) hx hb dX6_change_24 (by decide) ?_
      obtain ⟨q12, hq12, hf⟩ := bd_some hf
      refine kr_W (st1 := [.int q12.1]) (va_runV (As := [.int (0 : Int32)]) (rest := []) ⟨hx, hb, hml, hown, hts⟩ (ct_X6_finding l n g p0_paths p0_water p0_wall p0_kind p0_place p0_facing p0_age p0_seeds p0_season p0_z p0_spots p1_paths p1_water p1_wall p1_kind p1_place p1_facing p1_age p1_seeds p1_season p1_z p1_spots p2_paths p2_water p2_wall p2_kind p2_place p2_facing p2_age p2_seeds p2_season p2_z p2_spots t_bytes t_length t_sort t_start t_end t_value h_numbers h_bits h_size w_isKept w_told (0 : Int32) q12 hq12) (cwV 1 hts gX6_change_X6_finding rfl rfl rfl hd_X6_finding ⟨Nat.le_of_ble_eq_true rfl, Nat.le_of_ble_eq_true rfl⟩) ⟨bl_C, va_recv hK hP (ci := 4) (q0 := 0) rfl q_sp, pr_C rfl hB hP hS⟩ rfl rfl hl.1 rfl (lv_room (Nat.le_of_ble_eq_true rfl)) dX6_change_25 ⟨Nat.le_refl _, Nat.le_refl _⟩) hS rfl (fun hn13 H locs hP hS => ?_)
      have hP : va_P g.1 vwCl (cw g (pk3 (p0_paths, p0_water, p0_wall, p0_kind, p0_place, p0_facing, p0_age, p0_seeds, p0_season, p0_z, p0_spots) (p1_paths, p1_water, p1_wall, p1_kind, p1_place, p1_facing, p1_age, p1_seeds, p1_season, p1_z, p1_spots) (p2_paths, p2_water, p2_wall, p2_kind, p2_place, p2_facing, p2_age, p2_seeds, p2_season, p2_z, p2_spots), w_isKept, (t_bytes, t_length, t_sort, t_start, t_end, t_value), (h_numbers, h_bits, h_size), q12.2)) H := hP
      have hres : (q12.1, p0_kind, p0_place, p0_facing, p0_age, q12.2) = res := (Option.some.inj hf)
      have hP := w_eq (congrArg (fun z => cw g (pk3 (p0_paths, p0_water, p0_wall, z.2.1, z.2.2.1, z.2.2.2.1, z.2.2.2.2.1, p0_seeds, p0_season, p0_z, p0_spots) (p1_paths, p1_water, p1_wall, p1_kind, p1_place, p1_facing, p1_age, p1_seeds, p1_season, p1_z, p1_spots) (p2_paths, p2_water, p2_wall, p2_kind, p2_place, p2_facing, p2_age, p2_seeds, p2_season, p2_z, p2_spots), w_isKept, (t_bytes, t_length, t_sort, t_start, t_end, t_value), (h_numbers, h_bits, h_size), z.2.2.2.2.2)) hres) hP
      exact W.iret (v := q12.1) hx hb hr (fun t ht hW => ⟨congrArg (fun z => Outcome.returned (some (Value.int z.1))) hres, trivial, by rw [ht]; exact hP, hS.F ht⟩) hS.2.2 dX6_change_28
set_option maxHeartbeats 4000000 in
set_option maxRecDepth 100000 in
theorem ct_X6_apart (l : Launch) (n : Nat) (g : GC) (p0_paths : Nat → Int32) (p0_water : Int64) (p0_wall : Int64) (p0_kind : Nat → Int32) (p0_place : Nat → Int32) (p0_facing : Nat → Int32) (p0_age : Nat → Int32) (p0_seeds : Int32) (p0_season : Int32) (p0_z : Int32) (p0_spots : Nat → Int32) (p1_paths : Nat → Int32) (p1_water : Int64) (p1_wall : Int64) (p1_kind : Nat → Int32) (p1_place : Nat → Int32) (p1_facing : Nat → Int32) (p1_age : Nat → Int32) (p1_seeds : Int32) (p1_season : Int32) (p1_z : Int32) (p1_spots : Nat → Int32) (p2_paths : Nat → Int32) (p2_water : Int64) (p2_wall : Int64) (p2_kind : Nat → Int32) (p2_place : Nat → Int32) (p2_facing : Nat → Int32) (p2_age : Nat → Int32) (p2_seeds : Int32) (p2_season : Int32) (p2_z : Int32) (p2_spots : Nat → Int32) (t_bytes : Nat → Int32) (t_length : Int32) (t_sort : Int32) (t_start : Int32) (t_end : Int32) (t_value : Int32) (h_numbers : Nat → Nat → Int32) (h_bits : Nat → Int32) (h_size : Nat → Int32) (w_isKept : Int32) (w_told : Nat → Int32) (a1 : Int32) (a2 : Int32) (res : Int32 × (Nat → Int32)) (hf : fX6_apart n a1 a2 w_told = some res) : Met l yX6_apart wsX6_apart ({ frames := 2, cells := 0, slots := 0, locals := 43 }) (va_Pc [.ref (ga g 0), .int a1, .int a2] (cI g (pk3 (p0_paths, p0_water, p0_wall, p0_kind, p0_place, p0_facing, p0_age, p0_seeds, p0_season, p0_z, p0_spots) (p1_paths, p1_water, p1_wall, p1_kind, p1_place, p1_facing, p1_age, p1_seeds, p1_season, p1_z, p1_spots) (p2_paths, p2_water, p2_wall, p2_kind, p2_place, p2_facing, p2_age, p2_seeds, p2_season, p2_z, p2_spots), w_isKept, (t_bytes, t_length, t_sort, t_start, t_end, t_value), (h_numbers, h_bits, h_size), w_told))) (qW (some (.int res.1)) True g.1 (cw g (pk3 (p0_paths, p0_water, p0_wall, p0_kind, p0_place, p0_facing, p0_age, p0_seeds, p0_season, p0_z, p0_spots) (p1_paths, p1_water, p1_wall, p1_kind, p1_place, p1_facing, p1_age, p1_seeds, p1_season, p1_z, p1_spots) (p2_paths, p2_water, p2_wall, p2_kind, p2_place, p2_facing, p2_age, p2_seeds, p2_season, p2_z, p2_spots), w_isKept, (t_bytes, t_length, t_sort, t_start, t_end, t_value), (h_numbers, h_bits, h_size), res.2)) (gA g)) 0 0 (gA g) := by
  refine Met.ofW (cc := cX6_apart) (maxL := 3) (ret := (some .int)) (by decide) rfl ?_
  intro p e s m args below meth c s₁ B hml hv
  obtain ⟨rfl, hI⟩ := hv
  have hx := B.exec
  have hb := B.bytes
  have hr := B.returns
  have hts := atoms_spec (ws := wsX6_apart) B.pre
  have hown : s.vm.findClass RX6 = some m.cls := findClass_of_methodNamed B.named
  have hlocks := B.notSynchronized
  have hP := hI.1
  have hB := hI.2
  have hK := hB.1
  have hNW := hB.2.1
  have hS : va_S (gA g) s.heap s.heap [] := va_S.rf
  have hl := lv_entry ([.ref (ga g 0), .int a1, .int a2]) (n := 3) (Nat.le_of_ble_eq_true rfl)
  rw [lg_entry_eq]
  generalize (lg_sl ([.ref (ga g 0), .int a1, .int a2]) ++ List.replicate (3 - (lg_sl ([.ref (ga g 0), .int a1, .int a2])).length) Slot.unset).toArray = ls at hl ⊢
  have hl : lv_has ls 3 [(0, .ref (ga g 0)), (1, .int a1), (2, .int a2)] := hl
  unfold fX6_apart at hf
  refine lv_iload_n hx hb dX6_apart_0 rfl (lv_at hl 1 rfl) ?_
  obtain ⟨q1, hq1, hf⟩ := bd_some hf
  refine kr_S (st1 := [.int q1]) (va_runS (As := [.int a1]) (rest := []) ⟨hx, hb, hml, hown, hts⟩ (ct_X6_isCell l n a1 q1 hq1) (va_cwS 1 hts gX6_apart_X6_isCell rfl rfl rfl hn_X6_isCell ⟨Nat.le_of_ble_eq_true rfl, Nat.le_of_ble_eq_true rfl⟩) ⟨bl_N, pr_N rfl hNW⟩ rfl rfl hl.1 rfl (lv_room (Nat.le_of_ble_eq_true rfl)) dX6_apart_1 ⟨Nat.le_refl _, Nat.le_refl _⟩) rfl (fun hn2 => ?_)
  refine lv_if_eq (tgt := 14) hx hb dX6_apart_4 (by decide) (fun hc3 => ?_) (fun hc3 => ?_)
  · have hf := (if_pos hc3).symm.trans hf
    refine lv_aload_n hx hb dX6_apart_14 rfl (lv_at hl 0 rfl) ?_
    refine lv_iconst (v := (0 : Int32)) hx hb dX6_apart_15 (by decide) ?_
    obtain ⟨q4, hq4, hf⟩ := bd_some hf
    refine kr_W (st1 := [.int q4.1]) (va_runV (As := [.int (0 : Int32)]) (rest := []) ⟨hx, hb, hml, hown, hts⟩ (ct_X6_finding l n g p0_paths p0_water p0_wall p0_kind p0_place p0_facing p0_age p0_seeds p0_season p0_z p0_spots p1_paths p1_water p1_wall p1_kind p1_place p1_facing p1_age p1_seeds p1_season p1_z p1_spots p2_paths p2_water p2_wall p2_kind p2_place p2_facing p2_age p2_seeds p2_season p2_z p2_spots t_bytes t_length t_sort t_start t_end t_value h_numbers h_bits h_size w_isKept w_told (0 : Int32) q4 hq4) (cwV 1 hts gX6_apart_X6_finding rfl rfl rfl hd_X6_finding ⟨Nat.le_of_ble_eq_true rfl, Nat.le_of_ble_eq_true rfl⟩) ⟨bl_C, va_recv hK hP (ci := 4) (q0 := 0) rfl q_sp, pr_C rfl hB hP hS⟩ rfl rfl hl.1 rfl (lv_room (Nat.le_of_ble_eq_true rfl)) dX6_apart_16 ⟨Nat.le_refl _, Nat.le_refl _⟩) hS rfl (fun hn5 H locs hP hS => ?_)
    have hP : va_P g.1 vwCl (cw g (pk3 (p0_paths, p0_water, p0_wall, p0_kind, p0_place, p0_facing, p0_age, p0_seeds, p0_season, p0_z, p0_spots) (p1_paths, p1_water, p1_wall, p1_kind, p1_place, p1_facing, p1_age, p1_seeds, p1_season, p1_z, p1_spots) (p2_paths, p2_water, p2_wall, p2_kind, p2_place, p2_facing, p2_age, p2_seeds, p2_season, p2_z, p2_spots), w_isKept, (t_bytes, t_length, t_sort, t_start, t_end, t_value), (h_numbers, h_bits, h_size), q4.2)) H := hP
    have hres : (q4.1, q4.2) = res := (Option.some.inj hf)
    have hP := w_eq (congrArg (fun z => cw g (pk3 (p0_paths, p0_water, p0_wall, p0_kind, p0_place, p0_facing, p0_age, p0_seeds, p0_season, p0_z, p0_spots) (p1_paths, p1_water, p1_wall, p1_kind, p1_place, p1_facing, p1_age, p1_seeds, p1_season, p1_z, p1_spots) (p2_paths, p2_water, p2_wall, p2_kind, p2_place, p2_facing, p2_age, p2_seeds, p2_season, p2_z, p2_spots), w_isKept, (t_bytes, t_length, t_sort, t_start, t_end, t_value), (h_numbers, h_bits, h_size), z.2)) hres) hP
    exact W.iret (v := q4.1) hx hb hr (fun t ht hW => ⟨congrArg (fun z => Outcome.returned (some (Value.int z.1))) hres, trivial, by rw [ht]; exact hP, hS.F ht⟩) hS.2.2 dX6_apart_19
  · have hf := (if_neg hc3).symm.trans hf
    refine lv_iload_n hx hb dX6_apart_7 rfl (lv_at hl 2 rfl) ?_
    obtain ⟨q6, hq6, hf⟩ := bd_some hf
    refine kr_S (st1 := [.int q6]) (va_runS (As := [.int a2]) (rest := []) ⟨hx, hb, hml, hown, hts⟩ (ct_X6_isCell l n a2 q6 hq6) (va_cwS 1 hts gX6_apart_X6_isCell rfl rfl rfl hn_X6_isCell ⟨Nat.le_of_ble_eq_true rfl, Nat.le_of_ble_eq_true rfl⟩) ⟨bl_N, pr_N rfl hNW⟩ rfl rfl hl.1 rfl (lv_room (Nat.le_of_ble_eq_true rfl)) dX6_apart_8 ⟨Nat.le_refl _, Nat.le_refl _⟩) rfl (fun hn7 => ?_)
    refine lv_if_ne (tgt := 20) hx hb dX6_apart_11 (by decide) (fun hc8 => ?_) (fun hc8 => ?_)
    · have hf := (if_neg hc8).symm.trans hf
      refine lv_iload_n hx hb dX6_apart_20 rfl (lv_at hl 1 rfl) ?_
      refine lv_iload_n hx hb dX6_apart_21 rfl (lv_at hl 2 rfl) ?_
      obtain ⟨q9, hq9, hf⟩ := bd_some hf
      refine kr_S (st1 := [.int q9]) (va_runS (As := [.int a1, .int a2]) (rest := []) ⟨hx, hb, hml, hown, hts⟩ (ct_X0_distance l n a1 a2 q9 hq9) (va_cwS 2 hts gX6_apart_X0_distance rfl rfl rfl hn_X0_distance ⟨Nat.le_of_ble_eq_true rfl, Nat.le_of_ble_eq_true rfl⟩) ⟨bl_N, pr_N rfl hNW⟩ rfl rfl hl.1 rfl (lv_room (Nat.le_of_ble_eq_true rfl)) dX6_apart_22 ⟨Nat.le_refl _, Nat.le_refl _⟩) rfl (fun hn10 => ?_)
      have hres : (q9, w_told) = res := (Option.some.inj hf)
      have hP := w_eq (congrArg (fun z => cw g (pk3 (p0_paths, p0_water, p0_wall, p0_kind, p0_place, p0_facing, p0_age, p0_seeds, p0_season, p0_z, p0_spots) (p1_paths, p1_water, p1_wall, p1_kind, p1_place, p1_facing, p1_age, p1_seeds, p1_season, p1_z, p1_spots) (p2_paths, p2_water, p2_wall, p2_kind, p2_place, p2_facing, p2_age, p2_seeds, p2_season, p2_z, p2_spots), w_isKept, (t_bytes, t_length, t_sort, t_start, t_end, t_value), (h_numbers, h_bits, h_size), z.2)) hres) hP
      exact W.iret (v := q9) hx hb hr (fun t ht hW => ⟨congrArg (fun z => Outcome.returned (some (Value.int z.1))) hres, trivial, by rw [ht]; exact hP, hS.F ht⟩) hS.2.2 dX6_apart_25
    · have hf := (if_pos hc8).symm.trans hf
      refine lv_aload_n hx hb dX6_apart_14 rfl (lv_at hl 0 rfl) ?_
      refine lv_iconst (v := (0 : Int32)) hx hb dX6_apart_15 (by decide) ?_
      obtain ⟨q11, hq11, hf⟩ := bd_some hf
      refine kr_W (st1 := [.int q11.1]) (va_runV (As := [.int (0 : Int32)]) (rest := []) ⟨hx, hb, hml, hown, hts⟩ (ct_X6_finding l n g p0_paths p0_water p0_wall p0_kind p0_place p0_facing p0_age p0_seeds p0_season p0_z p0_spots p1_paths p1_water p1_wall p1_kind p1_place p1_facing p1_age p1_seeds p1_season p1_z p1_spots p2_paths p2_water p2_wall p2_kind p2_place p2_facing p2_age p2_seeds p2_season p2_z p2_spots t_bytes t_length t_sort t_start t_end t_value h_numbers h_bits h_size w_isKept w_told (0 : Int32) q11 hq11) (cwV 1 hts gX6_apart_X6_finding rfl rfl rfl hd_X6_finding ⟨Nat.le_of_ble_eq_true rfl, Nat.le_of_ble_eq_true rfl⟩) ⟨bl_C, va_recv hK hP (ci := 4) (q0 := 0) rfl q_sp, pr_C rfl hB hP hS⟩ rfl rfl hl.1 rfl (lv_room (Nat.le_of_ble_eq_true rfl)) dX6_apart_16 ⟨Nat.le_refl _, Nat.le_refl _⟩) hS rfl (fun hn12 H locs hP hS => ?_)
      have hP : va_P g.1 vwCl (cw g (pk3 (p0_paths, p0_water, p0_wall, p0_kind, p0_place, p0_facing, p0_age, p0_seeds, p0_season, p0_z, p0_spots) (p1_paths, p1_water, p1_wall, p1_kind, p1_place, p1_facing, p1_age, p1_seeds, p1_season, p1_z, p1_spots) (p2_paths, p2_water, p2_wall, p2_kind, p2_place, p2_facing, p2_age, p2_seeds, p2_season, p2_z, p2_spots), w_isKept, (t_bytes, t_length, t_sort, t_start, t_end, t_value), (h_numbers, h_bits, h_size), q11.2)) H := hP
      have hres : (q11.1, q11.2) = res := (Option.some.inj hf)
      have hP := w_eq (congrArg (fun z => cw g (pk3 (p0_paths, p0_water, p0_wall, p0_kind, p0_place, p0_facing, p0_age, p0_seeds, p0_season, p0_z, p0_spots) (p1_paths, p1_water, p1_wall, p1_kind, p1_place, p1_facing, p1_age, p1_seeds, p1_season, p1_z, p1_spots) (p2_paths, p2_water, p2_wall, p2_kind, p2_place, p2_facing, p2_age, p2_seeds, p2_season, p2_z, p2_spots), w_isKept, (t_bytes, t_length, t_sort, t_start, t_end, t_value), (h_numbers, h_bits, h_size), z.2)) hres) hP
      exact W.iret (v := q11.1) hx hb hr (fun t ht hW => ⟨congrArg (fun z => Outcome.returned (some (Value.int z.1))) hres, trivial, by rw [ht]; exact hP, hS.F ht⟩) hS.2.2 dX6_apart_19
set_option maxHeartbeats 4000000 in
set_option maxRecDepth 100000 in
theorem ct_X2_advance (l : Launch) (n : Nat) (g : GC) (S : PK → CS) (k : Nat) (hk : k < 3) (hL : zP k S) (f_paths : Nat → Int32) (f_water : Int64) (f_wall : Int64) (f_kind : Nat → Int32) (f_place : Nat → Int32) (f_facing : Nat → Int32) (f_age : Nat → Int32) (f_seeds : Int32) (f_season : Int32) (f_z : Int32) (f_spots : Nat → Int32) (j : Nat) (hj : j < 8) (res : (Nat → Int32) × (Nat → Int32) × (Nat → Int32) × (Nat → Int32)) (hf : fX2_advance n j f_paths f_water f_wall f_kind f_place f_facing f_age f_seeds f_season = some res) : Met l yX2_advance wsX2_advance ({ frames := 4, cells := 0, slots := 0, locals := 93 }) (va_Pc [.ref (ga g (1 + k)), .ref (ga g (25 + 8 * k + j))] (cI g (S (f_paths, f_water, f_wall, f_kind, f_place, f_facing, f_age, f_seeds, f_season, f_z, f_spots)))) (qW none True g.1 (cw g (S (res.1, f_water, f_wall, f_kind, res.2.1, res.2.2.1, res.2.2.2, f_seeds, f_season, f_z, f_spots))) (gA g)) 0 0 (gA g) := by
  refine Met.ofW (cc := cX2_advance) (maxL := 3) (ret := none) (by decide) rfl ?_
  intro p e s m args below meth c s₁ B hml hv
  obtain ⟨rfl, hI⟩ := hv
  have hx := B.exec
  have hb := B.bytes
  have hr := B.returns
  have hts := atoms_spec (ws := wsX2_advance) B.pre
  have hown : s.vm.findClass RX2 = some m.cls := findClass_of_methodNamed B.named
  have hlocks := B.notSynchronized
  have hP := hI.1
  have hB := hI.2
  have hK := hB.1
  have hNW := hB.2.1
  have hS : va_S (gA g) s.heap s.heap [] := va_S.rf
  have iwX3 : ∀ w ∈ wsX30, w ∈ wsX2_advance := fun w h => List.mem_cons_of_mem _ (List.mem_append_left _ (List.mem_append_right _ h))
  have hl := lv_entry ([.ref (ga g (1 + k)), .ref (ga g (25 + 8 * k + j))]) (n := 3) (Nat.le_of_ble_eq_true rfl)
  rw [lg_entry_eq]
  generalize (lg_sl ([.ref (ga g (1 + k)), .ref (ga g (25 + 8 * k + j))]) ++ List.replicate (3 - (lg_sl ([.ref (ga g (1 + k)), .ref (ga g (25 + 8 * k + j))])).length) Slot.unset).toArray = ls at hl ⊢
  have hl : lv_has ls 3 [(0, .ref (ga g (1 + k))), (1, .ref (ga g (25 + 8 * k + j)))] := hl
  unfold fX2_advance at hf
  refine lv_aload_n hx hb dX2_advance_0 rfl (lv_at hl 1 rfl) ?_
  refine lv_aload_n hx hb dX2_advance_1 rfl (lv_at hl 0 rfl) ?_
  refine lv_aload_n hx hb dX2_advance_2 rfl (lv_at hl 1 rfl) ?_
  obtain ⟨q1, hq1, hf⟩ := bd_some hf
  refine kr_S (st1 := [.int q1, .ref (ga g (25 + 8 * k + j))]) (va_runV (As := [.ref (ga g (25 + 8 * k + j))]) (rest := [.ref (ga g (25 + 8 * k + j))]) ⟨hx, hb, hml, hown, hts⟩ (ct_X2_turnOf l n g (S (f_paths, f_water, f_wall, f_kind, f_place, f_facing, f_age, f_seeds, f_season, f_z, f_spots)) k hk f_paths f_water f_wall f_kind f_place f_facing f_age f_seeds f_season f_z f_spots (hL.1 _) j hj q1 hq1) (cwV 1 hts gX2_advance_X2_turnOf rfl rfl rfl hd_X2_turnOf ⟨Nat.le_of_ble_eq_true rfl, Nat.le_of_ble_eq_true rfl⟩) ⟨bl_C, va_recv hK hP (ci := 0) (q0 := (1 + k)) rfl (e_pk hk (hL.1 _) (Q := (f_paths, f_water, f_wall, f_kind, f_place, f_facing, f_age, f_seeds, f_season, f_z, f_spots))), pr_C rfl hB hP hS⟩ rfl rfl hl.1 rfl (lv_room (Nat.le_of_ble_eq_true rfl)) dX2_advance_3 ⟨Nat.le_refl _, Nat.le_refl _⟩) rfl (fun hn2 => ?_)
  refine va_putN (D := g.1) (ci := 1) (v := .int q1) (ty := .int) (C := RX3) (T := TX3) (N := 4) hx hb hts iwX3 tyX3 tyX3_ok nmX3 hown hK hP (cD hB.2.2.1 _) hS (25 + 8 * k + j) (e_sd hk hj (hL.1 _) (Q := (f_paths, f_water, f_wall, f_kind, f_place, f_facing, f_age, f_seeds, f_season, f_z, f_spots))) rfl 2 (by decide) (nf_X2_71 hNW) (fun _ h9 => h9) rfl (tyX3_ok 2 (by decide)) rfl rfl (Nat.le_of_ble_eq_true rfl) dX2_advance_6 (fun H locs hP _ hS => ?_)
  have hP : va_P g.1 vwCl (cw g (S (f_paths, f_water, f_wall, f_kind, f_place, (upd f_facing j q1), f_age, f_seeds, f_season, f_z, f_spots))) H := w_eq (s_facing (S := S) (P := (f_paths, f_water, f_wall, f_kind, f_place, f_facing, f_age, f_seeds, f_season, f_z, f_spots)) q1 hk hj hL) hP
  refine lv_aload_n hx hb dX2_advance_9 rfl (lv_at hl 1 rfl) ?_
  refine va_getN (D := g.1) (ci := 1) (v := .int (f_place j)) (C := RX3) (T := TX3) (N := 4) hx hb hts iwX3 hown hK hP (25 + 8 * k + j) (e_sd hk hj (hL.1 _) (Q := (f_paths, f_water, f_wall, f_kind, f_place, (upd f_facing j q1), f_age, f_seeds, f_season, f_z, f_spots))) rfl 1 (by decide) (nf_X2_68 hNW) (fun _ h9 => h9) rfl dX2_advance_10 ?_
  refine lv_aload_n hx hb dX2_advance_13 rfl (lv_at hl 1 rfl) ?_
  refine va_getN (D := g.1) (ci := 1) (v := .int ((upd f_facing j q1) j)) (C := RX3) (T := TX3) (N := 4) hx hb hts iwX3 hown hK hP (25 + 8 * k + j) (e_sd hk hj (hL.1 _) (Q := (f_paths, f_water, f_wall, f_kind, f_place, (upd f_facing j q1), f_age, f_seeds, f_season, f_z, f_spots))) rfl 2 (by decide) (nf_X2_71 hNW) (fun _ h9 => h9) rfl dX2_advance_14 ?_
  obtain ⟨q3, hq3, hf⟩ := bd_some hf
  refine kr_S (st1 := [.int q3]) (va_runS (As := [.int (f_place j), .int ((upd f_facing j q1) j)]) (rest := []) ⟨hx, hb, hml, hown, hts⟩ (ct_X0_neighbour l n (f_place j) ((upd f_facing j q1) j) q3 hq3) (va_cwS 2 hts gX2_advance_X0_neighbour rfl rfl rfl hn_X0_neighbour ⟨Nat.le_of_ble_eq_true rfl, Nat.le_of_ble_eq_true rfl⟩) ⟨bl_N, pr_N rfl hNW⟩ rfl rfl hl.1 rfl (lv_room (Nat.le_of_ble_eq_true rfl)) dX2_advance_17 ⟨Nat.le_refl _, Nat.le_refl _⟩) rfl (fun hn4 => ?_)
  refine lv_istore_n (lv' := [(2, .int q3), (0, .ref (ga g (1 + k))), (1, .ref (ga g (25 + 8 * k + j)))]) hx hb dX2_advance_20 rfl hl (by decide) rfl (fun ls hl => ?_)
  refine lv_iload_n hx hb dX2_advance_21 rfl (lv_at hl 0 rfl) ?_
  refine lv_if_lt (tgt := 41) hx hb dX2_advance_22 (by decide) (fun hc5 => ?_) (fun hc5 => ?_)
  · have hf := (if_pos hc5).symm.trans hf
    refine lv_aload_n hx hb dX2_advance_41 rfl (lv_at hl 2 rfl) ?_
    refine lv_aload_n hx hb dX2_advance_42 rfl (lv_at hl 2 rfl) ?_
    refine va_getN (D := g.1) (ci := 1) (v := .int ((upd f_facing j q1) j)) (C := RX3) (T := TX3) (N := 4) hx hb hts iwX3 hown hK hP (25 + 8 * k + j) (e_sd hk hj (hL.1 _) (Q := (f_paths, f_water, f_wall, f_kind, f_place, (upd f_facing j q1), f_age, f_seeds, f_season, f_z, f_spots))) rfl 2 (by decide) (nf_X2_71 hNW) (fun _ h9 => h9) rfl dX2_advance_43 ?_
    refine lv_iconst (v := (1 : Int32)) hx hb dX2_advance_46 (by decide) ?_
    obtain ⟨q6, hq6, hf⟩ := bd_some hf
    refine kr_S (st1 := [.int q6, .ref (ga g (25 + 8 * k + j))]) (va_runS (As := [.int ((upd f_facing j q1) j), .int (1 : Int32)]) (rest := [.ref (ga g (25 + 8 * k + j))]) ⟨hx, hb, hml, hown, hts⟩ (ct_X0_turned l n ((upd f_facing j q1) j) (1 : Int32) q6 hq6) (va_cwS 2 hts gX2_advance_X0_turned rfl rfl rfl hn_X0_turned ⟨Nat.le_of_ble_eq_true rfl, Nat.le_of_ble_eq_true rfl⟩) ⟨bl_N, pr_N rfl hNW⟩ rfl rfl hl.1 rfl (lv_room (Nat.le_of_ble_eq_true rfl)) dX2_advance_47 ⟨Nat.le_refl _, Nat.le_refl _⟩) rfl (fun hn7 => ?_)
    refine va_putN (D := g.1) (ci := 1) (v := .int q6) (ty := .int) (C := RX3) (T := TX3) (N := 4) hx hb hts iwX3 tyX3 tyX3_ok nmX3 hown hK hP (cD hB.2.2.1 _) hS (25 + 8 * k + j) (e_sd hk hj (hL.1 _) (Q := (f_paths, f_water, f_wall, f_kind, f_place, (upd f_facing j q1), f_age, f_seeds, f_season, f_z, f_spots))) rfl 2 (by decide) (nf_X2_71 hNW) (fun _ h9 => h9) rfl (tyX3_ok 2 (by decide)) rfl rfl (Nat.le_of_ble_eq_true rfl) dX2_advance_50 (fun H locs hP _ hS => ?_)
    have hP : va_P g.1 vwCl (cw g (S (f_paths, f_water, f_wall, f_kind, f_place, (upd (upd f_facing j q1) j q6), f_age, f_seeds, f_season, f_z, f_spots))) H := w_eq (s_facing (S := S) (P := (f_paths, f_water, f_wall, f_kind, f_place, (upd f_facing j q1), f_age, f_seeds, f_season, f_z, f_spots)) q6 hk hj hL) hP
    refine lv_aload_n hx hb dX2_advance_53 rfl (lv_at hl 1 rfl) ?_
    refine lv_aload_n hx hb dX2_advance_54 rfl (lv_at hl 2 rfl) ?_
    refine va_getN (D := g.1) (ci := 1) (v := .int (f_place j)) (C := RX3) (T := TX3) (N := 4) hx hb hts iwX3 hown hK hP (25 + 8 * k + j) (e_sd hk hj (hL.1 _) (Q := (f_paths, f_water, f_wall, f_kind, f_place, (upd (upd f_facing j q1) j q6), f_age, f_seeds, f_season, f_z, f_spots))) rfl 1 (by decide) (nf_X2_68 hNW) (fun _ h9 => h9) rfl dX2_advance_55 ?_
    obtain ⟨q8, hq8, hf⟩ := bd_some hf
    refine kr_S (st1 := [.int q8]) (va_runV (As := [.int (f_place j)]) (rest := []) ⟨hx, hb, hml, hown, hts⟩ (ct_X2_pathOf l n g (S (f_paths, f_water, f_wall, f_kind, f_place, (upd (upd f_facing j q1) j q6), f_age, f_seeds, f_season, f_z, f_spots)) k hk f_paths f_water f_wall f_kind f_place (upd (upd f_facing j q1) j q6) f_age f_seeds f_season f_z f_spots (hL.1 _) (f_place j) q8 hq8) (cwV 1 hts gX2_advance_X2_pathOf rfl rfl rfl hd_X2_pathOf ⟨Nat.le_of_ble_eq_true rfl, Nat.le_of_ble_eq_true rfl⟩) ⟨bl_C, va_recv hK hP (ci := 0) (q0 := (1 + k)) rfl (e_pk hk (hL.1 _) (Q := (f_paths, f_water, f_wall, f_kind, f_place, (upd (upd f_facing j q1) j q6), f_age, f_seeds, f_season, f_z, f_spots))), pr_C rfl hB hP hS⟩ rfl rfl hl.1 rfl (lv_room (Nat.le_of_ble_eq_true rfl)) dX2_advance_58 ⟨Nat.le_refl _, Nat.le_refl _⟩) rfl (fun hn9 => ?_)
    refine lv_aload_n hx hb dX2_advance_61 rfl (lv_at hl 2 rfl) ?_
    obtain ⟨q10, hq10, hf⟩ := bd_some hf
    refine kr_S (st1 := [.int q10, .int q8]) (va_runV (As := []) (rest := [.int q8]) ⟨hx, hb, hml, hown, hts⟩ (ct_X3_treads l n g (S (f_paths, f_water, f_wall, f_kind, f_place, (upd (upd f_facing j q1) j q6), f_age, f_seeds, f_season, f_z, f_spots)) k hk f_paths f_water f_wall f_kind f_place (upd (upd f_facing j q1) j q6) f_age f_seeds f_season f_z f_spots (hL.1 _) j hj q10 hq10) (cwV 0 hts gX2_advance_X3_treads rfl rfl rfl hd_X3_treads ⟨Nat.le_of_ble_eq_true rfl, Nat.le_of_ble_eq_true rfl⟩) ⟨bl_C, va_recv hK hP (ci := 1) (q0 := (25 + 8 * k + j)) rfl (e_sd hk hj (hL.1 _) (Q := (f_paths, f_water, f_wall, f_kind, f_place, (upd (upd f_facing j q1) j q6), f_age, f_seeds, f_season, f_z, f_spots))), pr_C rfl hB hP hS⟩ rfl rfl hl.1 rfl (lv_room (Nat.le_of_ble_eq_true rfl)) dX2_advance_62 ⟨Nat.le_refl _, Nat.le_refl _⟩) rfl (fun hn11 => ?_)
    refine lv_icmp_ge (tgt := 80) hx hb dX2_advance_65 (by decide) (fun hc12 => ?_) (fun hc12 => ?_)
    · have hf := (if_pos hc12).symm.trans hf
      refine lv_aload_n hx hb dX2_advance_80 rfl (lv_at hl 2 rfl) ?_
      refine lv_dup hx hb dX2_advance_81 rfl ?_
      refine va_getN (D := g.1) (ci := 1) (v := .int (f_age j)) (C := RX3) (T := TX3) (N := 4) hx hb hts iwX3 hown hK hP (25 + 8 * k + j) (e_sd hk hj (hL.1 _) (Q := (f_paths, f_water, f_wall, f_kind, f_place, (upd (upd f_facing j q1) j q6), f_age, f_seeds, f_season, f_z, f_spots))) rfl 3 (by decide) (nf_X2_74 hNW) (fun _ h9 => h9) rfl dX2_advance_82 ?_
      refine lv_iconst (v := (1 : Int32)) hx hb dX2_advance_85 (by decide) ?_
      refine lv_iadd hx hb dX2_advance_86 ?_
      refine va_putN (D := g.1) (ci := 1) (v := .int ((f_age j) + (1 : Int32))) (ty := .int) (C := RX3) (T := TX3) (N := 4) hx hb hts iwX3 tyX3 tyX3_ok nmX3 hown hK hP (cD hB.2.2.1 _) hS (25 + 8 * k + j) (e_sd hk hj (hL.1 _) (Q := (f_paths, f_water, f_wall, f_kind, f_place, (upd (upd f_facing j q1) j q6), f_age, f_seeds, f_season, f_z, f_spots))) rfl 3 (by decide) (nf_X2_74 hNW) (fun _ h9 => h9) rfl (tyX3_ok 3 (by decide)) rfl rfl (Nat.le_of_ble_eq_true rfl) dX2_advance_87 (fun H locs hP _ hS => ?_)
      have hP : va_P g.1 vwCl (cw g (S (f_paths, f_water, f_wall, f_kind, f_place, (upd (upd f_facing j q1) j q6), (upd f_age j ((f_age j) + (1 : Int32))), f_seeds, f_season, f_z, f_spots))) H := w_eq (s_age (S := S) (P := (f_paths, f_water, f_wall, f_kind, f_place, (upd (upd f_facing j q1) j q6), f_age, f_seeds, f_season, f_z, f_spots)) ((f_age j) + (1 : Int32)) hk hj hL) hP
      have hres : (f_paths, f_place, (upd (upd f_facing j q1) j q6), (upd f_age j ((f_age j) + (1 : Int32)))) = res := (Option.some.inj hf)
      have hP := w_eq (congrArg (fun z => cw g (S (z.1, f_water, f_wall, f_kind, z.2.1, z.2.2.1, z.2.2.2, f_seeds, f_season, f_z, f_spots))) hres) hP
      exact W.vret hx hb hr (fun t ht hW => ⟨rfl, trivial, by rw [ht]; exact hP, hS.F ht⟩) hS.2.2 dX2_advance_90
    · have hf := (if_neg hc12).symm.trans hf
      refine lv_aload_n hx hb dX2_advance_68 rfl (lv_at hl 1 rfl) ?_
      refine lv_aload_n hx hb dX2_advance_69 rfl (lv_at hl 2 rfl) ?_
      refine va_getN (D := g.1) (ci := 1) (v := .int (f_place j)) (C := RX3) (T := TX3) (N := 4) hx hb hts iwX3 hown hK hP (25 + 8 * k + j) (e_sd hk hj (hL.1 _) (Q := (f_paths, f_water, f_wall, f_kind, f_place, (upd (upd f_facing j q1) j q6), f_age, f_seeds, f_season, f_z, f_spots))) rfl 1 (by decide) (nf_X2_68 hNW) (fun _ h9 => h9) rfl dX2_advance_70 ?_
      refine lv_aload_n hx hb dX2_advance_73 rfl (lv_at hl 2 rfl) ?_
      obtain ⟨q13, hq13, hf⟩ := bd_some hf
      refine kr_S (st1 := [.int q13, .int (f_place j), .ref (ga g (1 + k))]) (va_runV (As := []) (rest := [.int (f_place j), .ref (ga g (1 + k))]) ⟨hx, hb, hml, hown, hts⟩ (ct_X3_treads l n g (S (f_paths, f_water, f_wall, f_kind, f_place, (upd (upd f_facing j q1) j q6), f_age, f_seeds, f_season, f_z, f_spots)) k hk f_paths f_water f_wall f_kind f_place (upd (upd f_facing j q1) j q6) f_age f_seeds f_season f_z f_spots (hL.1 _) j hj q13 hq13) (cwV 0 hts gX2_advance_X3_treads rfl rfl rfl hd_X3_treads ⟨Nat.le_of_ble_eq_true rfl, Nat.le_of_ble_eq_true rfl⟩) ⟨bl_C, va_recv hK hP (ci := 1) (q0 := (25 + 8 * k + j)) rfl (e_sd hk hj (hL.1 _) (Q := (f_paths, f_water, f_wall, f_kind, f_place, (upd (upd f_facing j q1) j q6), f_age, f_seeds, f_season, f_z, f_spots))), pr_C rfl hB hP hS⟩ rfl rfl hl.1 rfl (lv_room (Nat.le_of_ble_eq_true rfl)) dX2_advance_74 ⟨Nat.le_refl _, Nat.le_refl _⟩) rfl (fun hn14 => ?_)
      obtain ⟨q15, hq15, hf⟩ := bd_some hf
      refine kr_W (st1 := []) (va_runV (As := [.int (f_place j), .int q13]) (rest := []) ⟨hx, hb, hml, hown, hts⟩ (ct_X2_becomePath l n g S k hk hL f_paths f_water f_wall f_kind f_place (upd (upd f_facing j q1) j q6) f_age f_seeds f_season f_z f_spots (f_place j) q13 q15 hq15) (cwV 2 hts gX2_advance_X2_becomePath rfl rfl rfl hd_X2_becomePath ⟨Nat.le_of_ble_eq_true rfl, Nat.le_of_ble_eq_true rfl⟩) ⟨bl_C, va_recv hK hP (ci := 0) (q0 := (1 + k)) rfl (e_pk hk (hL.1 _) (Q := (f_paths, f_water, f_wall, f_kind, f_place, (upd (upd f_facing j q1) j q6), f_age, f_seeds, f_season, f_z, f_spots))), pr_C rfl hB hP hS⟩ rfl rfl hl.1 rfl (lv_room (Nat.le_of_ble_eq_true rfl)) dX2_advance_77 ⟨Nat.le_refl _, Nat.le_refl _⟩) hS rfl (fun hn16 H locs hP hS => ?_)
      have hP : va_P g.1 vwCl (cw g (S (q15, f_water, f_wall, f_kind, f_place, (upd (upd f_facing j q1) j q6), f_age, f_seeds, f_season, f_z, f_spots))) H := hP
      refine lv_aload_n hx hb dX2_advance_80 rfl (lv_at hl 2 rfl) ?_
      refine lv_dup hx hb dX2_advance_81 rfl ?_
      refine va_getN (D := g.1) (ci := 1) (v := .int (f_age j)) (C := RX3) (T := TX3) (N := 4) hx hb hts iwX3 hown hK hP (25 + 8 * k + j) (e_sd hk hj (hL.1 _) (Q := (q15, f_water, f_wall, f_kind, f_place, (upd (upd f_facing j q1) j q6), f_age, f_seeds, f_season, f_z, f_spots))) rfl 3 (by decide) (nf_X2_74 hNW) (fun _ h9 => h9) rfl dX2_advance_82 ?_
      refine lv_iconst (v := (1 : Int32)) hx hb dX2_advance_85 (by decide) ?_
      refine lv_iadd hx hb dX2_advance_86 ?_
      refine va_putN (D := g.1) (ci := 1) (v := .int ((f_age j) + (1 : Int32))) (ty := .int) (C := RX3) (T := TX3) (N := 4) hx hb hts iwX3 tyX3 tyX3_ok nmX3 hown hK hP (cD hB.2.2.1 _) hS (25 + 8 * k + j) (e_sd hk hj (hL.1 _) (Q := (q15, f_water, f_wall, f_kind, f_place, (upd (upd f_facing j q1) j q6), f_age, f_seeds, f_season, f_z, f_spots))) rfl 3 (by decide) (nf_X2_74 hNW) (fun _ h9 => h9) rfl (tyX3_ok 3 (by decide)) rfl rfl (Nat.le_of_ble_eq_true rfl) dX2_advance_87 (fun H locs hP _ hS => ?_)
      have hP : va_P g.1 vwCl (cw g (S (q15, f_water, f_wall, f_kind, f_place, (upd (upd f_facing j q1) j q6), (upd f_age j ((f_age j) + (1 : Int32))), f_seeds, f_season, f_z, f_spots))) H := w_eq (s_age (S := S) (P := (q15, f_water, f_wall, f_kind, f_place, (upd (upd f_facing j q1) j q6), f_age, f_seeds, f_season, f_z, f_spots)) ((f_age j) + (1 : Int32)) hk hj hL) hP
      have hres : (q15, f_place, (upd (upd f_facing j q1) j q6), (upd f_age j ((f_age j) + (1 : Int32)))) = res := (Option.some.inj hf)
      have hP := w_eq (congrArg (fun z => cw g (S (z.1, f_water, f_wall, f_kind, z.2.1, z.2.2.1, z.2.2.2, f_seeds, f_season, f_z, f_spots))) hres) hP
      exact W.vret hx hb hr (fun t ht hW => ⟨rfl, trivial, by rw [ht]; exact hP, hS.F ht⟩) hS.2.2 dX2_advance_90
  · have hf := (if_neg hc5).symm.trans hf
    refine lv_aload_n hx hb dX2_advance_25 rfl (lv_at hl 1 rfl) ?_
    refine lv_iload_n hx hb dX2_advance_26 rfl (lv_at hl 0 rfl) ?_
    obtain ⟨q17, hq17, hf⟩ := bd_some hf
    refine kr_S (st1 := [.int q17]) (va_runV (As := [.int q3]) (rest := []) ⟨hx, hb, hml, hown, hts⟩ (ct_X2_isGrass l n g (S (f_paths, f_water, f_wall, f_kind, f_place, (upd f_facing j q1), f_age, f_seeds, f_season, f_z, f_spots)) k hk f_paths f_water f_wall f_kind f_place (upd f_facing j q1) f_age f_seeds f_season f_z f_spots (hL.1 _) q3 q17 hq17) (cwV 1 hts gX2_advance_X2_isGrass rfl rfl rfl hd_X2_isGrass ⟨Nat.le_of_ble_eq_true rfl, Nat.le_of_ble_eq_true rfl⟩) ⟨bl_C, va_recv hK hP (ci := 0) (q0 := (1 + k)) rfl (e_pk hk (hL.1 _) (Q := (f_paths, f_water, f_wall, f_kind, f_place, (upd f_facing j q1), f_age, f_seeds, f_season, f_z, f_spots))), pr_C rfl hB hP hS⟩ rfl rfl hl.1 rfl (lv_room (Nat.le_of_ble_eq_true rfl)) dX2_advance_27 ⟨Nat.le_refl _, Nat.le_refl _⟩) rfl (fun hn18 => ?_)
    refine lv_if_eq (tgt := 41) hx hb dX2_advance_30 (by decide) (fun hc19 => ?_) (fun hc19 => ?_)
    · have hf := (if_pos hc19).symm.trans hf
      refine lv_aload_n hx hb dX2_advance_41 rfl (lv_at hl 2 rfl) ?_
      refine lv_aload_n hx hb dX2_advance_42 rfl (lv_at hl 2 rfl) ?_
      refine va_getN (D := g.1) (ci := 1) (v := .int ((upd f_facing j q1) j)) (C := RX3) (T := TX3) (N := 4) hx hb hts iwX3 hown hK hP (25 + 8 * k + j) (e_sd hk hj (hL.1 _) (Q := (f_paths, f_water, f_wall, f_kind, f_place, (upd f_facing j q1), f_age, f_seeds, f_season, f_z, f_spots))) rfl 2 (by decide) (nf_X2_71 hNW) (fun _ h9 => h9) rfl dX2_advance_43 ?_
      refine lv_iconst (v := (1 : Int32)) hx hb dX2_advance_46 (by decide) ?_
      obtain ⟨q20, hq20, hf⟩ := bd_some hf
      refine kr_S (st1 := [.int q20, .ref (ga g (25 + 8 * k + j))]) (va_runS (As := [.int ((upd f_facing j q1) j), .int (1 : Int32)]) (rest := [.ref (ga g (25 + 8 * k + j))]) ⟨hx, hb, hml, hown, hts⟩ (ct_X0_turned l n ((upd f_facing j q1) j) (1 : Int32) q20 hq20) (va_cwS 2 hts gX2_advance_X0_turned rfl rfl rfl hn_X0_turned ⟨Nat.le_of_ble_eq_true rfl, Nat.le_of_ble_eq_true rfl⟩) ⟨bl_N, pr_N rfl hNW⟩ rfl rfl hl.1 rfl (lv_room (Nat.le_of_ble_eq_true rfl)) dX2_advance_47 ⟨Nat.le_refl _, Nat.le_refl _⟩) rfl (fun hn21 => ?_)
      refine va_putN (D := g.1) (ci := 1) (v := .int q20) (ty := .int) (C := RX3) (T := TX3) (N := 4) hx hb hts iwX3 tyX3 tyX3_ok nmX3 hown hK hP (cD hB.2.2.1 _) hS (25 + 8 * k + j) (e_sd hk hj (hL.1 _) (Q := (f_paths, f_water, f_wall, f_kind, f_place, (upd f_facing j q1), f_age, f_seeds, f_season, f_z, f_spots))) rfl 2 (by decide) (nf_X2_71 hNW) (fun _ h9 => h9) rfl (tyX3_ok 2 (by decide)) rfl rfl (Nat.le_of_ble_eq_true rfl) dX2_advance_50 (fun H locs hP _ hS => ?_)
      have hP : va_P g.1 vwCl (cw g (S (f_paths, f_water, f_wall, f_kind, f_place, (upd (upd f_facing j q1) j q20), f_age, f_seeds, f_season, f_z, f_spots))) H := w_eq (s_facing (S := S) (P := (f_paths, f_water, f_wall, f_kind, f_place, (upd f_facing j q1), f_age, f_seeds, f_season, f_z, f_spots)) q20 hk hj hL) hP
      refine lv_aload_n hx hb dX2_advance_53 rfl (lv_at hl 1 rfl) ?_
      refine lv_aload_n hx hb dX2_advance_54 rfl (lv_at hl 2 rfl) ?_
      refine va_getN (D := g.1) (ci := 1) (v := .int (f_place j)) (C := RX3) (T := TX3) (N := 4) hx hb hts iwX3 hown hK hP (25 + 8 * k + j) (e_sd hk hj (hL.1 _) (Q := (f_paths, f_water, f_wall, f_kind, f_place, (upd (upd f_facing j q1) j q20), f_age, f_seeds, f_season, f_z, f_spots))) rfl 1 (by decide) (nf_X2_68 hNW) (fun _ h9 => h9) rfl dX2_advance_55 ?_
      obtain ⟨q22, hq22, hf⟩ := bd_some hf
      refine kr_S (st1 := [.int q22]) (va_runV (As := [.int (f_place j)]) (rest := []) ⟨hx, hb, hml, hown, hts⟩ (ct_X2_pathOf l n g (S (f_paths, f_water, f_wall, f_kind, f_place, (upd (upd f_facing j q1) j q20), f_age, f_seeds, f_season, f_z, f_spots)) k hk f_paths f_water f_wall f_kind f_place (upd (upd f_facing j q1) j q20) f_age f_seeds f_season f_z f_spots (hL.1 _) (f_place j) q22 hq22) (cwV 1 hts gX2_advance_X2_pathOf rfl rfl rfl hd_X2_pathOf ⟨Nat.le_of_ble_eq_true rfl, Nat.le_of_ble_eq_true rfl⟩) ⟨bl_C, va_recv hK hP (ci := 0) (q0 := (1 + k)) rfl (e_pk hk (hL.1 _) (Q := (f_paths, f_water, f_wall, f_kind, f_place, (upd (upd f_facing j q1) j q20), f_age, f_seeds, f_season, f_z, f_spots))), pr_C rfl hB hP hS⟩ rfl rfl hl.1 rfl (lv_room (Nat.le_of_ble_eq_true rfl)) dX2_advance_58 ⟨Nat.le_refl _, Nat.le_refl _⟩) rfl (fun hn23 => ?_)
      refine lv_aload_n hx hb dX2_advance_61 rfl (lv_at hl 2 rfl) ?_
      obtain ⟨q24, hq24, hf⟩ := bd_some hf
      refine kr_S (st1 := [.int q24, .int q22]) (va_runV (As := []) (rest := [.int q22]) ⟨hx, hb, hml, hown, hts⟩ (ct_X3_treads l n g (S (f_paths, f_water, f_wall, f_kind, f_place, (upd (upd f_facing j q1) j q20), f_age, f_seeds, f_season, f_z, f_spots)) k hk f_paths f_water f_wall f_kind f_place (upd (upd f_facing j q1) j q20) f_age f_seeds f_season f_z f_spots (hL.1 _) j hj q24 hq24) (cwV 0 hts gX2_advance_X3_treads rfl rfl rfl hd_X3_treads ⟨Nat.le_of_ble_eq_true rfl, Nat.le_of_ble_eq_true rfl⟩) ⟨bl_C, va_recv hK hP (ci := 1) (q0 := (25 + 8 * k + j)) rfl (e_sd hk hj (hL.1 _) (Q := (f_paths, f_water, f_wall, f_kind, f_place, (upd (upd f_facing j q1) j q20), f_age, f_seeds, f_season, f_z, f_spots))), pr_C rfl hB hP hS⟩ rfl rfl hl.1 rfl (lv_room (Nat.le_of_ble_eq_true rfl)) dX2_advance_62 ⟨Nat.le_refl _, Nat.le_refl _⟩) rfl (fun hn25 => ?_)
      refine lv_icmp_ge (tgt := 80) hx hb dX2_advance_65 (by decide) (fun hc26 => ?_) (fun hc26 => ?_)
      · have hf := (if_pos hc26).symm.trans hf
        refine lv_aload_n hx hb dX2_advance_80 rfl (lv_at hl 2 rfl) ?_
        refine lv_dup hx hb dX2_advance_81 rfl ?_
        refine va_getN (D := g.1) (ci := 1) (v := .int (f_age j)) (C := RX3) (T := TX3) (N := 4) hx hb hts iwX3 hown hK hP (25 + 8 * k + j) (e_sd hk hj (hL.1 _) (Q := (f_paths, f_water, f_wall, f_kind, f_place, (upd (upd f_facing j q1) j q20), f_age, f_seeds, f_season, f_z, f_spots))) rfl 3 (by decide) (nf_X2_74 hNW) (fun _ h9 => h9) rfl dX2_advance_82 ?_
        refine lv_iconst (v := (1 : Int32)) hx hb dX2_advance_85 (by decide) ?_
        refine lv_iadd hx hb dX2_advance_86 ?_
        refine va_putN (D := g.1) (ci := 1) (v := .int ((f_age j) + (1 : Int32))) (ty := .int) (C := RX3) (T := TX3) (N := 4) hx hb hts iwX3 tyX3 tyX3_ok nmX3 hown hK hP (cD hB.2.2.1 _) hS (25 + 8 * k + j) (e_sd hk hj (hL.1 _) (Q := (f_paths, f_water, f_wall, f_kind, f_place, (upd (upd f_facing j q1) j q20), f_age, f_seeds, f_season, f_z, f_spots))) rfl 3 (by decide) (nf_X2_74 hNW) (fun _ h9 => h9) rfl (tyX3_ok 3 (by decide)) rfl rfl (Nat.le_of_ble_eq_true rfl) dX2_advance_87 (fun H locs hP _ hS => ?_)
        have hP : va_P g.1 vwCl (cw g (S (f_paths, f_water, f_wall, f_kind, f_place, (upd (upd f_facing j q1) j q20), (upd f_age j ((f_age j) + (1 : Int32))), f_seeds, f_season, f_z, f_spots))) H := w_eq (s_age (S := S) (P := (f_paths, f_water, f_wall, f_kind, f_place, (upd (upd f_facing j q1) j q20), f_age, f_seeds, f_season, f_z, f_spots)) ((f_age j) + (1 : Int32)) hk hj hL) hP
        have hres : (f_paths, f_place, (upd (upd f_facing j q1) j q20), (upd f_age j ((f_age j) + (1 : Int32)))) = res := (Option.some.inj hf)
        have hP := w_eq (congrArg (fun z => cw g (S (z.1, f_water, f_wall, f_kind, z.2.1, z.2.2.1, z.2.2.2, f_seeds, f_season, f_z, f_spots))) hres) hP
        exact W.vret hx hb hr (fun t ht hW => ⟨rfl, trivial, by rw [ht]; exact hP, hS.F ht⟩) hS.2.2 dX2_advance_90
      · have hf := (if_neg hc26).symm.trans hf
        refine lv_aload_n hx hb dX2_advance_68 rfl (lv_at hl 1 rfl) ?_
        refine lv_aload_n hx hb dX2_advance_69 rfl (lv_at hl 2 rfl) ?_
        refine va_getN (D := g.1) (ci := 1) (v := .int (f_place j)) (C := RX3) (T := TX3) (N := 4) hx hb hts iwX3 hown hK hP (25 + 8 * k + j) (e_sd hk hj (hL.1 _) (Q := (f_paths, f_water, f_wall, f_kind, f_place, (upd (upd f_facing j q1) j q20), f_age, f_seeds, f_season, f_z, f_spots))) rfl 1 (by decide) (nf_X2_68 hNW) (fun _ h9 => h9) rfl dX2_advance_70 ?_
        refine lv_aload_n hx hb dX2_advance_73 rfl (lv_at hl 2 rfl) ?_
        obtain ⟨q27, hq27, hf⟩ := bd_some hf
        refine kr_S (st1 := [.int q27, .int (f_place j), .ref (ga g (1 + k))]) (va_runV (As := []) (rest := [.int (f_place j), .ref (ga g (1 + k))]) ⟨hx, hb, hml, hown, hts⟩ (ct_X3_treads l n g (S (f_paths, f_water, f_wall, f_kind, f_place, (upd (upd f_facing j q1) j q20), f_age, f_seeds, f_season, f_z, f_spots)) k hk f_paths f_water f_wall f_kind f_place (upd (upd f_facing j q1) j q20) f_age f_seeds f_season f_z f_spots (hL.1 _) j hj q27 hq27) (cwV 0 hts gX2_advance_X3_treads rfl rfl rfl hd_X3_treads ⟨Nat.le_of_ble_eq_true rfl, Nat.le_of_ble_eq_true rfl⟩) ⟨bl_C, va_recv hK hP (ci := 1) (q0 := (25 + 8 * k + j)) rfl (e_sd hk hj (hL.1 _) (Q := (f_paths, f_water, f_wall, f_kind, f_place, (upd (upd f_facing j q1) j q20), f_age, f_seeds, f_season, f_z, f_spots))), pr_C rfl hB hP hS⟩ rfl rfl hl.1 rfl (lv_room (Nat.le_of_ble_eq_true rfl)) dX2_advance_74 ⟨Nat.le_refl _, Nat.le_refl _⟩) rfl (fun hn28 => ?_)
        obtain ⟨q29, hq29, hf⟩ := bd_some hf
        refine kr_W (st1 := []) (va_runV (As := [.int (f_place j), .int q27]) (rest := []) ⟨hx, hb, hml, hown, hts⟩ (ct_X2_becomePath l n g S k hk hL f_paths f_water f_wall f_kind f_place (upd (upd f_facing j q1) j q20) f_age f_seeds f_season f_z f_spots (f_place j) q27 q29 hq29) (cwV 2 hts gX2_advance_X2_becomePath rfl rfl rfl hd_X2_becomePath ⟨Nat.le_of_ble_eq_true rfl, Nat.le_of_ble_eq_true rfl⟩) ⟨bl_C, va_recv hK hP (ci := 0) (q0 := (1 + k)) rfl (e_pk hk (hL.1 _) (Q := (f_paths, f_water, f_wall, f_kind, f_place, (upd (upd f_facing j q1) j q20), f_age, f_seeds, f_season, f_z, f_spots))), pr_C rfl hB hP hS⟩ rfl rfl hl.1 rfl (lv_room (Nat.le_of_ble_eq_true rfl)) dX2_advance_77 ⟨Nat.le_refl _, Nat.le_refl _⟩) hS rfl (fun hn30 H locs hP hS => ?_)
        have hP : va_P g.1 vwCl (cw g (S (q29, f_water, f_wall, f_kind, f_place, (upd (upd f_facing j q1) j q20), f_age, f_seeds, f_season, f_z, f_spots))) H := hP
        refine lv_aload_n hx hb dX2_advance_80 rfl (lv_at hl 2 rfl) ?_
        refine lv_dup hx hb dX2_advance_81 rfl ?_
        refine va_getN (D := g.1) (ci := 1) (v := .int (f_age j)) (C := RX3) (T := TX3) (N := 4) hx hb hts iwX3 hown hK hP (25 + 8 * k + j) (e_sd hk hj (hL.1 _) (Q := (q29, f_water, f_wall, f_kind, f_place, (upd (upd f_facing j q1) j q20), f_age, f_seeds, f_season, f_z, f_spots))) rfl 3 (by decide) (nf_X2_74 hNW) (fun _ h9 => h9) rfl dX2_advance_82 ?_
        refine lv_iconst (v := (1 : Int32)) hx hb dX2_advance_85 (by decide) ?_
        refine lv_iadd hx hb dX2_advance_86 ?_
        refine va_putN (D := g.1) (ci := 1) (v := .int ((f_age j) + (1 : Int32))) (ty := .int) (C := RX3) (T := TX3) (N := 4) hx hb hts iwX3 tyX3 tyX3_ok nmX3 hown hK hP (cD hB.2.2.1 _) hS (25 + 8 * k + j) (e_sd hk hj (hL.1 _) (Q := (q29, f_water, f_wall, f_kind, f_place, (upd (upd f_facing j q1) j q20), f_age, f_seeds, f_season, f_z, f_spots))) rfl 3 (by decide) (nf_X2_74 hNW) (fun _ h9 => h9) rfl (tyX3_ok 3 (by decide)) rfl rfl (Nat.le_of_ble_eq_true rfl) dX2_advance_87 (fun H locs hP _ hS => ?_)
        have hP : va_P g.1 vwCl (cw g (S (q29, f_water, f_wall, f_kind, f_place, (upd (upd f_facing j q1) j q20), (upd f_age j ((f_age j) + (1 : Int32))), f_seeds, f_season, f_z, f_spots))) H := w_eq (s_age (S := S) (P := (q29, f_water, f_wall, f_kind, f_place, (upd (upd f_facing j q1) j q20), f_age, f_seeds, f_season, f_z, f_spots)) ((f_age j) + (1 : Int32)) hk hj hL) hP
        have hres : (q29, f_place, (upd (upd f_facing j q1) j q20), (upd f_age j ((f_age j) + (1 : Int32)))) = res := (Option.some.inj hf)
        have hP := w_eq (congrArg (fun z => cw g (S (z.1, f_water, f_wall, f_kind, z.2.1, z.2.2.1, z.2.2.2, f_seeds, f_season, f_z, f_spots))) hres) hP
        exact W.vret hx hb hr (fun t ht hW => ⟨rfl, trivial, by rw [ht]; exact hP, hS.F ht⟩) hS.2.2 dX2_advance_90
    · have hf := (if_neg hc19).symm.trans hf
      refine lv_aload_n hx hb dX2_advance_33 rfl (lv_at hl 2 rfl) ?_
      refine lv_iload_n hx hb dX2_advance_34 rfl (lv_at hl 0 rfl) ?_
      refine va_putN (D := g.1) (ci := 1) (v := .int q3) (ty := .int) (C := RX3) (T := TX3) (N := 4) hx hb hts iwX3 tyX3 tyX3_ok nmX3 hown hK hP (cD hB.2.2.1 _) hS (25 + 8 * k + j) (e_sd hk hj (hL.1 _) (Q := (f_paths, f_water, f_wall, f_kind, f_place, (upd f_facing j q1), f_age, f_seeds, f_season, f_z, f_spots))) rfl 1 (by decide) (nf_X2_68 hNW) (fun _ h9 => h9) rfl (tyX3_ok 1 (by decide)) rfl rfl (Nat.le_of_ble_eq_true rfl) dX2_advance_35 (fun H locs hP _ hS => ?_)
      have hP : va_P g.1 vwCl (cw g (S (f_paths, f_water, f_wall, f_kind, (upd f_place j q3), (upd f_facing j q1), f_age, f_seeds, f_season, f_z, f_spots))) H := w_eq (s_place (S := S) (P := (f_paths, f_water, f_wall, f_kind, f_place, (upd f_facing j q1), f_age, f_seeds, f_season, f_z, f_spots)) q3 hk hj hL) hP
      refine lv_goto (tgt := 53) hx hb dX2_advance_38 (by decide) ?_
      refine lv_aload_n hx hb dX2_advance_53 rfl (lv_at hl 1 rfl) ?_
      refine lv_aload_n hx hb dX2_advance_54 rfl (lv_at hl 2 rfl) ?_
      refine va_getN (D := g.1) (ci := 1) (v := .int ((upd f_place j q3) j)) (C := RX3) (T := TX3) (N := 4) hx hb hts iwX3 hown hK hP (25 + 8 * k + j) (e_sd hk hj (hL.1 _) (Q := (f_paths, f_water, f_wall, f_kind, (upd f_place j q3), (upd f_facing j q1), f_age, f_seeds, f_season, f_z, f_spots))) rfl 1 (by decide) (nf_X2_68 hNW) (fun _ h9 => h9) rfl dX2_advance_55 ?_
      obtain ⟨q31, hq31, hf⟩ := bd_some hf
      refine kr_S (st1 := [.int q31]) (va_runV (As := [.int ((upd f_place j q3) j)]) (rest := []) ⟨hx, hb, hml, hown, hts⟩ (ct_X2_pathOf l n g (S (f_paths, f_water, f_wall, f_kind, (upd f_place j q3), (upd f_facing j q1), f_age, f_seeds, f_season, f_z, f_spots)) k hk f_paths f_water f_wall f_kind (upd f_place j q3) (upd f_facing j q1) f_age f_seeds f_season f_z f_spots (hL.1 _) ((upd f_place j q3) j) q31 hq31) (cwV 1 hts gX2_advance_X2_pathOf rfl rfl rfl hd_X2_pathOf ⟨Nat.le_of_ble_eq_true rfl, Nat.le_of_ble_eq_true rfl⟩) ⟨bl_C, va_recv hK hP (ci := 0) (q0 := (1 + k)) rfl (e_pk hk (hL.1 _) (Q := (f_paths, f_water, f_wall, f_kind, (upd f_place j q3), (upd f_facing j q1), f_age, f_seeds, f_season, f_z, f_spots))), pr_C rfl hB hP hS⟩ rfl rfl hl.1 rfl (lv_room (Nat.le_of_ble_eq_true rfl)) dX2_advance_58 ⟨Nat.le_refl _, Nat.le_refl _⟩) rfl (fun hn32 => ?_)
      refine lv_aload_n hx hb dX2_advance_61 rfl (lv_at hl 2 rfl) ?_
      obtain ⟨q33, hq33, hf⟩ := bd_some hf
      refine kr_S (st1 := [.int q33, .int q31]) (va_runV (As := []) (rest := [.int q31]) ⟨hx, hb, hml, hown, hts⟩ (ct_X3_treads l n g (S (f_paths, f_water, f_wall, f_kind, (upd f_place j q3), (upd f_facing j q1), f_age, f_seeds, f_season, f_z, f_spots)) k hk f_paths f_water f_wall f_kind (upd f_place j q3) (upd f_facing j q1) f_age f_seeds f_season f_z f_spots (hL.1 _) j hj q33 hq33) (cwV 0 hts gX2_advance_X3_treads rfl rfl rfl hd_X3_treads ⟨Nat.le_of_ble_eq_true rfl, Nat.le_of_ble_eq_true rfl⟩) ⟨bl_C, va_recv hK hP (ci := 1) (q0 := (25 + 8 * k + j)) rfl (e_sd hk hj (hL.1 _) (Q := (f_paths, f_water, f_wall, f_kind, (upd f_place j q3), (upd f_facing j q1), f_age, f_seeds, f_season, f_z, f_spots))), pr_C rfl hB hP hS⟩ rfl rfl hl.1 rfl (lv_room (Nat.le_of_ble_eq_true rfl)) dX2_advance_62 ⟨Nat.le_refl _, Nat.le_refl _⟩) rfl (fun hn34 => ?_)
      refine lv_icmp_ge (tgt := 80) hx hb dX2_advance_65 (by decide) (fun hc35 => ?_) (fun hc35 => ?_)
      · have hf := (if_pos hc35).symm.trans hf
        refine lv_aload_n hx hb dX2_advance_80 rfl (lv_at hl 2 rfl) ?_
        refine lv_dup hx hb dX2_advance_81 rfl ?_
        refine va_getN (D := g.1) (ci := 1) (v := .int (f_age j)) (C := RX3) (T := TX3) (N := 4) hx hb hts iwX3 hown hK hP (25 + 8 * k + j) (e_sd hk hj (hL.1 _) (Q := (f_paths, f_water, f_wall, f_kind, (upd f_place j q3), (upd f_facing j q1), f_age, f_seeds, f_season, f_z, f_spots))) rfl 3 (by decide) (nf_X2_74 hNW) (fun _ h9 => h9) rfl dX2_advance_82 ?_
        refine lv_iconst (v := (1 : Int32)) hx hb dX2_advance_85 (by decide) ?_
        refine lv_iadd hx hb dX2_advance_86 ?_
        refine va_putN (D := g.1) (ci := 1) (v := .int ((f_age j) + (1 : Int32))) (ty := .int) (C := RX3) (T := TX3) (N := 4) hx hb hts iwX3 tyX3 tyX3_ok nmX3 hown hK hP (cD hB.2.2.1 _) hS (25 + 8 * k + j) (e_sd hk hj (hL.1 _) (Q := (f_paths, f_water, f_wall, f_kind, (upd f_place j q3), (upd f_facing j q1), f_age, f_seeds, f_season, f_z, f_spots))) rfl 3 (by decide) (nf_X2_74 hNW) (fun _ h9 => h9) rfl (tyX3_ok 3 (by decide)) rfl rfl (Nat.le_of_ble_eq_true rfl) dX2_advance_87 (fun H locs hP _ hS => ?_)
        have hP : va_P g.1 vwCl (cw g (S (f_paths, f_water, f_wall, f_kind, (upd f_place j q3), (upd f_facing j q1), (upd f_age j ((f_age j) + (1 : Int32))), f_seeds, f_season, f_z, f_spots))) H := w_eq (s_age (S := S) (P := (f_paths, f_water, f_wall, f_kind, (upd f_place j q3), (upd f_facing j q1), f_age, f_seeds, f_season, f_z, f_spots)) ((f_age j) + (1 : Int32)) hk hj hL) hP
        have hres : (f_paths, (upd f_place j q3), (upd f_facing j q1), (upd f_age j ((f_age j) + (1 : Int32)))) = res := (Option.some.inj hf)
        have hP := w_eq (congrArg (fun z => cw g (S (z.1, f_water, f_wall, f_kind, z.2.1, z.2.2.1, z.2.2.2, f_seeds, f_season, f_z, f_spots))) hres) hP
        exact W.vret hx hb hr (fun t ht hW => ⟨rfl, trivial, by rw [ht]; exact hP, hS.F ht⟩) hS.2.2 dX2_advance_90
      · have hf := (if_neg hc35).symm.trans hf
        refine lv_aload_n hx hb dX2_advance_68 rfl (lv_at hl 1 rfl) ?_
        refine lv_aload_n hx hb dX2_advance_69 rfl (lv_at hl 2 rfl) ?_
        refine va_getN (D := g.1) (ci := 1) (v := .int ((upd f_place j q3) j)) (C := RX3) (T := TX3) (N := 4) hx hb hts iwX3 hown hK hP (25 + 8 * k + j) (e_sd hk hj (hL.1 _) (Q := (f_paths, f_water, f_wall, f_kind, (upd f_place j q3), (upd f_facing j q1), f_age, f_seeds, f_season, f_z, f_spots))) rfl 1 (by decide) (nf_X2_68 hNW) (fun _ h9 => h9) rfl dX2_advance_70 ?_
        refine lv_aload_n hx hb dX2_advance_73 rfl (lv_at hl 2 rfl) ?_
        obtain ⟨q36, hq36, hf⟩ := bd_some hf
        refine kr_S (st1 := [.int q36, .int ((upd f_place j q3) j), .ref (ga g (1 + k))]) (va_runV (As := []) (rest := [.int ((upd f_place j q3) j), .ref (ga g (1 + k))]) ⟨hx, hb, hml, hown, hts⟩ (ct_X3_treads l n g (S (f_paths, f_water, f_wall, f_kind, (upd f_place j q3), (upd f_facing j q1), f_age, f_seeds, f_season, f_z, f_spots)) k hk f_paths f_water f_wall f_kind (upd f_place j q3) (upd f_facing j q1) f_age f_seeds f_season f_z f_spots (hL.1 _) j hj q36 hq36) (cwV 0 hts gX2_advance_X3_treads rfl rfl rfl hd_X3_treads ⟨Nat.le_of_ble_eq_true rfl, Nat.le_of_ble_eq_true rfl⟩) ⟨bl_C, va_recv hK hP (ci := 1) (q0 := (25 + 8 * k + j)) rfl (e_sd hk hj (hL.1 _) (Q := (f_paths, f_water, f_wall, f_kind, (upd f_place j q3), (upd f_facing j q1), f_age, f_seeds, f_season, f_z, f_spots))), pr_C rfl hB hP hS⟩ rfl rfl hl.1 rfl (lv_room (Nat.le_of_ble_eq_true rfl)) dX2_advance_74 ⟨Nat.le_refl _, Nat.le_refl _⟩) rfl (fun hn37 => ?_)
        obtain ⟨q38, hq38, hf⟩ := bd_some hf
        refine kr_W (st1 := []) (va_runV (As := [.int ((upd f_place j q3) j), .int q36]) (rest := []) ⟨hx, hb, hml, hown, hts⟩ (ct_X2_becomePath l n g S k hk hL f_paths f_water f_wall f_kind (upd f_place j q3) (upd f_facing j q1) f_age f_seeds f_season f_z f_spots ((upd f_place j q3) j) q36 q38 hq38) (cwV 2 hts gX2_advance_X2_becomePath rfl rfl rfl hd_X2_becomePath ⟨Nat.le_of_ble_eq_true rfl, Nat.le_of_ble_eq_true rfl⟩) ⟨bl_C, va_recv hK hP (ci := 0) (q0 := (1 + k)) rfl (e_pk hk (hL.1 _) (Q := (f_paths, f_water, f_wall, f_kind, (upd f_place j q3), (upd f_facing j q1), f_age, f_seeds, f_season, f_z, f_spots))), pr_C rfl hB hP hS⟩ rfl rfl hl.1 rfl (lv_room (Nat.le_of_ble_eq_true rfl)) dX2_advance_77 ⟨Nat.le_refl _, Nat.le_refl _⟩) hS rfl (fun hn39 H locs hP hS => ?_)
        have hP : va_P g.1 vwCl (cw g (S (q38, f_water, f_wall, f_kind, (upd f_place j q3), (upd f_facing j q1), f_age, f_seeds, f_season, f_z, f_spots))) H := hP
        refine lv_aload_n hx hb dX2_advance_80 rfl (lv_at hl 2 rfl) ?_
        refine lv_dup hx hb dX2_advance_81 rfl ?_
        refine va_getN (D := g.1) (ci := 1) (v := .int (f_age j)) (C := RX3) (T := TX3) (N := 4) hx hb hts iwX3 hown hK hP (25 + 8 * k + j) (e_sd hk hj (hL.1 _) (Q := (q38, f_water, f_wall, f_kind, (upd f_place j q3), (upd f_facing j q1), f_age, f_seeds, f_season, f_z, f_spots))) rfl 3 (by decide) (nf_X2_74 hNW) (fun _ h9 => h9) rfl dX2_advance_82 ?_
        refine lv_iconst (v := (1 : Int32)) hx hb dX2_advance_85 (by decide) ?_
        refine lv_iadd hx hb dX2_advance_86 ?_
        refine va_putN (D := g.1) (ci := 1) (v := .int ((f_age j) + (1 : Int32))) (ty := .int) (C := RX3) (T := TX3) (N := 4) hx hb hts iwX3 tyX3 tyX3_ok nmX3 hown hK hP (cD hB.2.2.1 _) hS (25 + 8 * k + j) (e_sd hk hj (hL.1 _) (Q := (q38, f_water, f_wall, f_kind, (upd f_place j q3), (upd f_facing j q1), f_age, f_seeds, f_season, f_z, f_spots))) rfl 3 (by decide) (nf_X2_74 hNW) (fun _ h9 => h9) rfl (tyX3_ok 3 (by decide)) rfl rfl (Nat.le_of_ble_eq_true rfl) dX2_advance_87 (fun H locs hP _ hS => ?_)
        have hP : va_P g.1 vwCl (cw g (S (q38, f_water, f_wall, f_kind, (upd f_place j q3), (upd f_facing j q1), (upd f_age j ((f_age j) + (1 : Int32))), f_seeds, f_season, f_z, f_spots))) H := w_eq (s_age (S := S) (P := (q38, f_water, f_wall, f_kind, (upd f_place j q3), (upd f_facing j q1), f_age, f_seeds, f_season, f_z, f_spots)) ((f_age j) + (1 : Int32)) hk hj hL) hP
        have hres : (q38, (upd f_place j q3), (upd f_facing j q1), (upd f_age j ((f_age j) + (1 : Int32)))) = res := (Option.some.inj hf)
        have hP := w_eq (congrArg (fun z => cw g (S (z.1, f_water, f_wall, f_kind, z.2.1, z.2.2.1, z.2.2.2, f_seeds, f_season, f_z, f_spots))) hres) hP
        exact W.vret hx hb hr (fun t ht hW => ⟨rfl, trivial, by rw [ht]; exact hP, hS.F ht⟩) hS.2.2 dX2_advance_90
set_option maxHeartbeats 4000000 in
set_option maxRecDepth 100000 in
theorem ct_X2_pass (l : Launch) (n : Nat) (g : GC) (S : PK → CS) (k : Nat) (hk : k < 3) (hL : zP k S) (f_paths : Nat → Int32) (f_water : Int64) (f_wall : Int64) (f_kind : Nat → Int32) (f_place : Nat → Int32) (f_facing : Nat → Int32) (f_age : Nat → Int32) (f_seeds : Int32) (f_season : Int32) (f_z : Int32) (f_spots : Nat → Int32) (a1 : Int32) (res : (Nat → Int32) × (Nat → Int32) × (Nat → Int32) × (Nat → Int32) × Int32) (hf : fX2_pass n a1 f_paths f_water f_wall f_kind f_place f_facing f_age f_seeds f_season = some res) : Met l yX2_pass wsX2_pass ({ frames := 5, cells := 0, slots := 0, locals := 115 }) (va_Pc [.ref (ga g (1 + k)), .int a1] (cI g (S (f_paths, f_water, f_wall, f_kind, f_place, f_facing, f_age, f_seeds, f_season, f_z, f_spots)))) (qW none True g.1 (cw g (S (res.1, f_water, f_wall, f_kind, res.2.1, res.2.2.1, res.2.2.2.1, f_seeds, res.2.2.2.2, f_z, f_spots))) (gA g)) 0 0 (gA g) := by
  refine Met.ofW (cc := cX2_pass) (maxL := 5) (ret := none) (by decide) rfl ?_
  intro p e s m args below meth c s₁ B hml hv
  obtain ⟨rfl, hI⟩ := hv
  have hx := B.exec
  have hb := B.bytes
  have hr := B.returns
  have hts := atoms_spec (ws := wsX2_pass) B.pre
  have hown : s.vm.findClass RX2 = some m.cls := findClass_of_methodNamed B.named
  have hlocks := B.notSynchronized
  have hP := hI.1
  have hB := hI.2
  have hK := hB.1
  have hNW := hB.2.1
  have hS : va_S (gA g) s.heap s.heap [] := va_S.rf
  have hw0 := hts (.fieldLink RX2 9 "SownPaths$Park" "paths" "[I") (by decide +kernel)
  have hw1 := hts (.methodLink RX2 117 Lib.Math.max.name) (by decide +kernel)
  have hw2 := hts (.static Lib.Math.max.name) (by decide +kernel)
  have hw3 := hts (.initialized "java/lang/Math") (by decide +kernel)
  have hw4 := hts (.code Lib.Math.max.name Lib.Math.max.code 2 (some .int)) (by decide +kernel)
  have hw5 := hts (.fieldLink RX2 48 "SownPaths$Park" "seeds" "I") (by decide +kernel)
  have hw6 := hts (.fieldLink RX2 51 "SownPaths$Park" "season" "I") (by decide +kernel)
  have hw7 := hts (.constant RX2 125 (99999)) (by decide +kernel)
  have hw8 := hts (.methodLink RX2 126 Lib.Math.min.name) (by decide +kernel)
  have hw9 := hts (.static Lib.Math.min.name) (by decide +kernel)
  have hw10 := hts (.code Lib.Math.min.name Lib.Math.min.code 2 (some .int)) (by decide +kernel)
  have iwX2 : ∀ w ∈ wsX20, w ∈ wsX2_pass := fun w h => List.mem_cons_of_mem _ (List.mem_append_left _ (List.mem_append_right _ h))
  have hl := lv_entry ([.ref (ga g (1 + k)), .int a1]) (n := 5) (Nat.le_of_ble_eq_true rfl)
  rw [lg_entry_eq]
  generalize (lg_sl ([.ref (ga g (1 + k)), .int a1]) ++ List.replicate (5 - (lg_sl ([.ref (ga g (1 + k)), .int a1])).length) Slot.unset).toArray = ls at hl ⊢
  have hl : lv_has ls 5 [(0, .ref (ga g (1 + k))), (1, .int a1)] := hl
  unfold fX2_pass at hf
  refine lv_iconst (v := (0 : Int32)) hx hb dX2_pass_0 (by decide) ?_
  refine lv_istore_n (lv' := [(2, .int (0 : Int32)), (0, .ref (ga g (1 + k))), (1, .int a1)]) hx hb dX2_pass_1 rfl hl (by decide) rfl (fun ls hl => ?_)
  refine lp_run hf (fun s1 => ∀ (H : Heap) (locs : List Loc) (ls : Array Slot), va_P g.1 vwCl (cw g (S (s1.2.1, f_water, f_wall, f_kind, s1.2.2.1, s1.2.2.2.1, s1.2.2.2.2.1, f_seeds, s1.2.2.2.2.2, f_z, f_spots))) H → va_S (gA g) s.heap H locs → lv_has ls 5 [(0, .ref (ga g (1 + k))), (1, .int a1), (2, .int s1.1)] → W p l e (headSpec wsX2_pass ({ frames := 5, cells := 0, slots := 0, locals := 115 })).room s m ([.ref (ga g (1 + k)), .int a1] : List Value).toArray below meth c H locs 0 0 (MQ below (qW none True g.1 (cw g (S (res.1, f_water, f_wall, f_kind, res.2.1, res.2.2.1, res.2.2.2.1, f_seeds, res.2.2.2.2, f_z, f_spots))) (gA g)) ([.ref (ga g (1 + k)), .int a1] : List Value).toArray s 0 0 (gA g)) (F0 m 2 ls [])) (fun v2 => ∀ (H : Heap) (locs : List Loc) (ls : Array Slot), va_P g.1 vwCl (cw g (S (v2.2.1, f_water, f_wall, f_kind, v2.2.2.1, v2.2.2.2.1, v2.2.2.2.2.1, f_seeds, v2.2.2.2.2.2, f_z, f_spots))) H → va_S (gA g) s.heap H locs → lv_has ls 5 [] → W p l e (headSpec wsX2_pass ({ frames := 5, cells := 0, slots := 0, locals := 115 })).room s m ([.ref (ga g (1 + k)), .int a1] : List Value).toArray below meth c H locs 0 0 (MQ below (qW none True g.1 (cw g (S (res.1, f_water, f_wall, f_kind, res.2.1, res.2.2.1, res.2.2.2.1, f_seeds, res.2.2.2.2, f_z, f_spots))) (gA g)) ([.ref (ga g (1 + k)), .int a1] : List Value).toArray s 0 0 (gA g)) (F0 m 105 ls [])) ?_ ?_ _ _ _ hP hS (lv_sub hl [1, 2, 0] rfl)
  · intro v2 hf H locs ls hP hS hl
    have hres : (v2.2.1, v2.2.2.1, v2.2.2.2.1, v2.2.2.2.2.1, v2.2.2.2.2.2) = res := (Option.some.inj hf)
    have hP := w_eq (congrArg (fun z => cw g (S (z.1, f_water, f_wall, f_kind, z.2.1, z.2.2.1, z.2.2.2.1, f_seeds, z.2.2.2.2, f_z, f_spots))) hres) hP
    exact W.vret hx hb hr (fun t ht hW => ⟨rfl, trivial, by rw [ht]; exact hP, hS.F ht⟩) hS.2.2 dX2_pass_105
  · intro s1 r1 hf hback1 hexit1 H locs ls hP hS hl
    refine lv_iload_n hx hb dX2_pass_2 rfl (lv_at hl 2 rfl) ?_
    refine lv_iload_n hx hb dX2_pass_3 rfl (lv_at hl 1 rfl) ?_
    refine lv_icmp_ge (tgt := 105) hx hb dX2_pass_4 (by decide) (fun hc3 => ?_) (fun hc3 => ?_)
    · have hf := (if_pos hc3).symm.trans hf
      exact hexit1 (s1.1, s1.2.1, s1.2.2.1, s1.2.2.2.1, s1.2.2.2.2.1, s1.2.2.2.2.2) (Option.some.inj hf).symm H locs ls hP hS (lv_sub hl [] rfl)
    · have hf := (if_neg hc3).symm.trans hf
      refine lv_iconst (v := (0 : Int32)) hx hb dX2_pass_7 (by decide) ?_
      refine lv_istore_n (lv' := [(3, .int (0 : Int32)), (0, .ref (ga g (1 + k))), (1, .int a1), (2, .int s1.1)]) hx hb dX2_pass_8 rfl hl (by decide) rfl (fun ls hl => ?_)
      refine lp_run hf (fun s4 => ∀ (H : Heap) (locs : List Loc) (ls : Array Slot), va_P g.1 vwCl (cw g (S (s4.2, f_water, f_wall, f_kind, s1.2.2.1, s1.2.2.2.1, s1.2.2.2.2.1, f_seeds, s1.2.2.2.2.2, f_z, f_spots))) H → va_S (gA g) s.heap H locs → lv_has ls 5 [(0, .ref (ga g (1 + k))), (1, .int a1), (2, .int s1.1), (3, .int s4.1)] → W p l e (headSpec wsX2_pass ({ frames := 5, cells := 0, slots := 0, locals := 115 })).room s m ([.ref (ga g (1 + k)), .int a1] : List Value).toArray below meth c H locs 0 0 (MQ below (qW none True g.1 (cw g (S (res.1, f_water, f_wall, f_kind, res.2.1, res.2.2.1, res.2.2.2.1, f_seeds, res.2.2.2.2, f_z, f_spots))) (gA g)) ([.ref (ga g (1 + k)), .int a1] : List Value).toArray s 0 0 (gA g)) (F0 m 9 ls [])) (fun v5 => ∀ (H : Heap) (locs : List Loc) (ls : Array Slot), va_P g.1 vwCl (cw g (S (v5.2, f_water, f_wall, f_kind, s1.2.2.1, s1.2.2.2.1, s1.2.2.2.2.1, f_seeds, s1.2.2.2.2.2, f_z, f_spots))) H → va_S (gA g) s.heap H locs → lv_has ls 5 [(0, .ref (ga g (1 + k))), (1, .int a1), (2, .int s1.1)] → W p l e (headSpec wsX2_pass ({ frames := 5, cells := 0, slots := 0, locals := 115 })).room s m ([.ref (ga g (1 + k)), .int a1] : List Value).toArray below meth c H locs 0 0 (MQ below (qW none True g.1 (cw g (S (res.1, f_water, f_wall, f_kind, res.2.1, res.2.2.1, res.2.2.2.1, f_seeds, res.2.2.2.2, f_z, f_spots))) (gA g)) ([.ref (ga g (1 + k)), .int a1] : List Value).toArray s 0 0 (gA g)) (F0 m 42 ls [])) ?_ ?_ _ _ _ hP hS (lv_sub hl [1, 2, 3, 0] rfl)
      · intro v5 hf H locs ls hP hS hl
        refine lv_iconst (v := (0 : Int32)) hx hb dX2_pass_42 (by decide) ?_
        refine lv_istore_n (lv' := [(3, .int (0 : Int32)), (0, .ref (ga g (1 + k))), (1, .int a1), (2, .int s1.1)]) hx hb dX2_pass_43 rfl hl (by decide) rfl (fun ls hl => ?_)
        refine lp_run hf (fun s9 => ∀ (H : Heap) (locs : List Loc) (ls : Array Slot), va_P g.1 vwCl (cw g (S (s9.2.1, f_water, f_wall, f_kind, s9.2.2.1, s9.2.2.2.1, s9.2.2.2.2, f_seeds, s1.2.2.2.2.2, f_z, f_spots))) H → va_S (gA g) s.heap H locs → lv_has ls 5 [(0, .ref (ga g (1 + k))), (1, .int a1), (2, .int s1.1), (3, .int s9.1)] → W p l e (headSpec wsX2_pass ({ frames := 5, cells := 0, slots := 0, locals := 115 })).room s m ([.ref (ga g (1 + k)), .int a1] : List Value).toArray below meth c H locs 0 0 (MQ below (qW none True g.1 (cw g (S (res.1, f_water, f_wall, f_kind, res.2.1, res.2.2.1, res.2.2.2.1, f_seeds, res.2.2.2.2, f_z, f_spots))) (gA g)) ([.ref (ga g (1 + k)), .int a1] : List Value).toArray s 0 0 (gA g)) (F0 m 44 ls [])) (fun v10 => ∀ (H : Heap) (locs : List Loc) (ls : Array Slot), va_P g.1 vwCl (cw g (S (v10.2.1, f_water, f_wall, f_kind, v10.2.2.1, v10.2.2.2.1, v10.2.2.2.2, f_seeds, s1.2.2.2.2.2, f_z, f_spots))) H → va_S (gA g) s.heap H locs → lv_has ls 5 [(0, .ref (ga g (1 + k))), (1, .int a1), (2, .int s1.1)] → W p l e (headSpec wsX2_pass ({ frames := 5, cells := 0, slots := 0, locals := 115 })).room s m ([.ref (ga g (1 + k)), .int a1] : List Value).toArray below meth c H locs 0 0 (MQ below (qW none True g.1 (cw g (S (res.1, f_water, f_wall, f_kind, res.2.1, res.2.2.1, res.2.2.2.1, f_seeds, res.2.2.2.2, f_z, f_spots))) (gA g)) ([.ref (ga g (1 + k)), .int a1] : List Value).toArray s 0 0 (gA g)) (F0 m 84 ls [])) ?_ ?_ _ _ _ hP hS (lv_sub hl [1, 2, 3, 0] rfl)
        · intro v10 hf H locs ls hP hS hl
          refine lv_aload_n hx hb dX2_pass_84 rfl (lv_at hl 0 rfl) ?_
          refine lv_aload_n hx hb dX2_pass_85 rfl (lv_at hl 0 rfl) ?_
          refine va_get (D := g.1) (ci := 0) (v := .int s1.2.2.2.2.2) (C := RX2) (T := TX2) (N := 8) hx hb hts iwX2 hown hK hP (1 + k) (e_pk hk (hL.1 _) (Q := (v10.2.1, f_water, f_wall, f_kind, v10.2.2.1, v10.2.2.2.1, v10.2.2.2.2, f_seeds, s1.2.2.2.2.2, f_z, f_spots))) rfl 5 (by decide) hw6 (fun _ h9 => h9) rfl dX2_pass_86 ?_
          refine lv_iconst (v := (1 : Int32)) hx hb dX2_pass_89 (by decide) ?_
          refine lv_iadd hx hb dX2_pass_90 ?_
          refine lv_ldc (v := (99999 : Int32)) hx hb hown hw7 dX2_pass_91 ?_
          refine va_mmin hx hb (hml.trans hl.1.symm) hown hw8 hw9 hw3 hw10 (Nat.le_of_ble_eq_true rfl) (Nat.le_of_ble_eq_true rfl) (Nat.le_of_ble_eq_true rfl) (Nat.le_of_ble_eq_true rfl) dX2_pass_93 ?_
          refine va_put (D := g.1) (ci := 0) (v := .int (if (99999 : Int32) < (s1.2.2.2.2.2 + (1 : Int32)) then (99999 : Int32) else (s1.2.2.2.2.2 + (1 : Int32)))) (ty := .int) (C := RX2) (T := TX2) (N := 8) hx hb hts iwX2 tyX2 tyX2_ok nmX2 hown hK hP (cD hB.2.2.1 _) hS (1 + k) (e_pk hk (hL.1 _) (Q := (v10.2.1, f_water, f_wall, f_kind, v10.2.2.1, v10.2.2.2.1, v10.2.2.2.2, f_seeds, s1.2.2.2.2.2, f_z, f_spots))) rfl 5 (by decide) hw6 (fun _ h9 => h9) rfl (tyX2_ok 5 (by decide)) rfl rfl (Nat.le_of_ble_eq_true rfl) dX2_pass_96 (fun H locs hP _ hS => ?_)
          have hP : va_P g.1 vwCl (cw g (S (v10.2.1, f_water, f_wall, f_kind, v10.2.2.1, v10.2.2.2.1, v10.2.2.2.2, f_seeds, (if (99999 : Int32) < (s1.2.2.2.2.2 + (1 : Int32)) then (99999 : Int32) else (s1.2.2.2.2.2 + (1 : Int32))), f_z, f_spots))) H := w_eq (s_season (S := S) (P := (v10.2.1, f_water, f_wall, f_kind, v10.2.2.1, v10.2.2.2.1, v10.2.2.2.2, f_seeds, s1.2.2.2.2.2, f_z, f_spots)) (if (99999 : Int32) < (s1.2.2.2.2.2 + (1 : Int32)) then (99999 : Int32) else (s1.2.2.2.2.2 + (1 : Int32))) hk hL) hP
          refine lv_iinc (v := (s1.1 + (1 : Int32))) (lv' := [(2, .int (s1.1 + (1 : Int32))), (0, .ref (ga g (1 + k))), (1, .int a1)]) hx hb dX2_pass_99 hl (k := 2) rfl (congrArg (fun y => s1.1 + y) (by decide : Int32.ofInt (1) = (1 : Int32))) (by decide) rfl (fun ls hl => ?_)
          refine lv_goto (tgt := 2) hx hb dX2_pass_102 (by decide) ?_
          exact hback1 _ (Option.some.inj hf).symm H locs ls hP hS (lv_sub hl [1, 2, 0] rfl)
        · intro s9 r2 hf hback2 hexit2 H locs ls hP hS hl
          refine lv_iload_n hx hb dX2_pass_44 rfl (lv_at hl 3 rfl) ?_
          refine lv_aload_n hx hb dX2_pass_45 rfl (lv_at hl 0 rfl) ?_
          refine va_get (D := g.1) (ci := 0) (v := .int f_seeds) (C := RX2) (T := TX2) (N := 8) hx hb hts iwX2 hown hK hP (1 + k) (e_pk hk (hL.1 _) (Q := (s9.2.1, f_water, f_wall, f_kind, s9.2.2.1, s9.2.2.2.1, s9.2.2.2.2, f_seeds, s1.2.2.2.2.2, f_z, f_spots))) rfl 4 (by decide) hw5 (fun _ h9 => h9) rfl dX2_pass_46 ?_
          refine lv_icmp_ge (tgt := 84) hx hb dX2_pass_49 (by decide) (fun hc11 => ?_) (fun hc11 => ?_)
          · have hf := (if_pos hc11).symm.trans hf
            exact hexit2 (s9.1, s9.2.1, s9.2.2.1, s9.2.2.2.1, s9.2.2.2.2) (Option.some.inj hf).symm H locs ls hP hS (lv_sub hl [0, 1, 2] rfl)
          · have hf := (if_neg hc11).symm.trans hf
            refine lv_aload_n hx hb dX2_pass_52 rfl (lv_at hl 0 rfl) ?_
            refine lv_iload_n hx hb dX2_pass_53 rfl (lv_at hl 3 rfl) ?_
            obtain ⟨q12, hq12, hf⟩ := bd_some hf
            refine kr_S (st1 := [va_rf (Option.map (fun j => ga g (25 + 8 * k + j)) q12)]) (va_runV (As := [.int s9.1]) (rest := []) ⟨hx, hb, hml, hown, hts⟩ (ct_X2_seedAt l n g (S (s9.2.1, f_water, f_wall, f_kind, s9.2.2.1, s9.2.2.2.1, s9.2.2.2.2, f_seeds, s1.2.2.2.2.2, f_z, f_spots)) k hk s9.2.1 f_water f_wall f_kind s9.2.2.1 s9.2.2.2.1 s9.2.2.2.2 f_seeds s1.2.2.2.2.2 f_z f_spots (hL.1 _) s9.1 q12 hq12) (cwV 1 hts gX2_pass_X2_seedAt rfl rfl rfl hd_X2_seedAt ⟨Nat.le_of_ble_eq_true rfl, Nat.le_of_ble_eq_true rfl⟩) ⟨bl_C, va_recv hK hP (ci := 0) (q0 := (1 + k)) rfl (e_pk hk (hL.1 _) (Q := (s9.2.1, f_water, f_wall, f_kind, s9.2.2.1, s9.2.2.2.1, s9.2.2.2.2, f_seeds, s1.2.2.2.2.2, f_z, f_spots))), pr_C rfl hB hP hS⟩ rfl rfl hl.1 rfl (lv_room (Nat.le_of_ble_eq_true rfl)) dX2_pass_54 ⟨Nat.le_refl _, Nat.le_refl _⟩) rfl (fun hn13 => ?_)
            rcases q12 with _ | j14
            · have hf := eo_n hf
              refine W.eq (g2 := F0 m 57 ls [.null]) rfl ?_
              refine lv_astoreN (lv' := [(4, .null), (0, .ref (ga g (1 + k))), (1, .int a1), (2, .int s1.1), (3, .int s9.1)]) hx hb dX2_pass_57 hl (by decide) rfl (fun ls hl => ?_)
              refine lv_aloadN hx hb dX2_pass_59 (lv_at hl 0 rfl) ?_
              refine lv_ifnullN (tgt := 78) hx hb dX2_pass_61 (by decide) ?_
              refine lv_iinc (v := (s9.1 + (1 : Int32))) (lv' := [(3, .int (s9.1 + (1 : Int32))), (4, .null), (0, .ref (ga g (1 + k))), (1, .int a1), (2, .int s1.1)]) hx hb dX2_pass_78 hl (k := 4) rfl (congrArg (fun y => s9.1 + y) (by decide : Int32.ofInt (1) = (1 : Int32))) (by decide) rfl (fun ls hl => ?_)
              refine lv_goto (tgt := 44) hx hb dX2_pass_81 (by decide) ?_
              exact hback2 _ (Option.some.inj hf).symm H locs ls hP hS (lv_sub hl [2, 3, 4, 0] rfl)
            · have hf := eo_s hf
              have hj15 := hn13 _ rfl
              refine W.eq (g2 := F0 m 57 ls [.ref (ga g (25 + 8 * k + j14))]) rfl ?_
              refine lv_astore (lv' := [(4, .ref (ga g (25 + 8 * k + j14))), (0, .ref (ga g (1 + k))), (1, .int a1), (2, .int s1.1), (3, .int s9.1)]) hx hb dX2_pass_57 hl (by decide) rfl (fun ls hl => ?_)
              refine lv_aload hx hb dX2_pass_59 (lv_at hl 0 rfl) ?_
              refine lv_ifnull hx hb dX2_pass_61 ?_
              refine lv_aload hx hb dX2_pass_64 (lv_at hl 0 rfl) ?_
              obtain ⟨q16, hq16, hf⟩ := bd_some hf
              refine kr_S (st1 := [.int q16]) (va_runV (As := []) (rest := []) ⟨hx, hb, hml, hown, hts⟩ (ct_X3_isAlive l n g (S (s9.2.1, f_water, f_wall, f_kind, s9.2.2.1, s9.2.2.2.1, s9.2.2.2.2, f_seeds, s1.2.2.2.2.2, f_z, f_spots)) k hk s9.2.1 f_water f_wall f_kind s9.2.2.1 s9.2.2.2.1 s9.2.2.2.2 f_seeds s1.2.2.2.2.2 f_z f_spots (hL.1 _) j14 hj15 q16 hq16) (cwV 0 hts gX2_pass_X3_isAlive rfl rfl rfl hd_X3_isAlive ⟨Nat.le_of_ble_eq_true rfl, Nat.le_of_ble_eq_true rfl⟩) ⟨bl_C, va_recv hK hP (ci := 1) (q0 := (25 + 8 * k + j14)) rfl (e_sd hk hj15 (hL.1 _) (Q := (s9.2.1, f_water, f_wall, f_kind, s9.2.2.1, s9.2.2.2.1, s9.2.2.2.2, f_seeds, s1.2.2.2.2.2, f_z, f_spots))), pr_C rfl hB hP hS⟩ rfl rfl hl.1 rfl (lv_room (Nat.le_of_ble_eq_true rfl)) dX2_pass_66 ⟨Nat.le_refl _, Nat.le_refl _⟩) rfl (fun hn17 => ?_)
              refine lv_if_eq (tgt := 78) hx hb dX2_pass_69 (by decide) (fun hc18 => ?_) (fun hc18 => ?_)
              · have hf := (if_pos hc18).symm.trans hf
                refine lv_iinc (v := (s9.1 + (1 : Int32))) (lv' := [(3, .int (s9.1 + (1 : Int32))), (4, .ref (ga g (25 + 8 * k + j14))), (0, .ref (ga g (1 + k))), (1, .int a1), (2, .int s1.1)]) hx hb dX2_pass_78 hl (k := 4) rfl (congrArg (fun y => s9.1 + y) (by decide : Int32.ofInt (1) = (1 : Int32))) (by decide) rfl (fun ls hl => ?_)
                refine lv_goto (tgt := 44) hx hb dX2_pass_81 (by decide) ?_
                exact hback2 _ (Option.some.inj hf).symm H locs ls hP hS (lv_sub hl [2, 3, 4, 0] rfl)
              · have hf := (if_neg hc18).symm.trans hf
                refine lv_aload_n hx hb dX2_pass_72 rfl (lv_at hl 1 rfl) ?_
                refine lv_aload hx hb dX2_pass_73 (lv_at hl 0 rfl) ?_
                obtain ⟨q19, hq19, hf⟩ := bd_some hf
                refine kr_W (st1 := []) (va_runV (As := [.ref (ga g (25 + 8 * k + j14))]) (rest := []) ⟨hx, hb, hml, hown, hts⟩ (ct_X2_advance l n g S k hk hL s9.2.1 f_water f_wall f_kind s9.2.2.1 s9.2.2.2.1 s9.2.2.2.2 f_seeds s1.2.2.2.2.2 f_z f_spots j14 hj15 q19 hq19) (cwV 1 hts gX2_pass_X2_advance rfl rfl rfl hd_X2_advance ⟨Nat.le_of_ble_eq_true rfl, Nat.le_of_ble_eq_true rfl⟩) ⟨bl_C, va_recv hK hP (ci := 0) (q0 := (1 + k)) rfl (e_pk hk (hL.1 _) (Q := (s9.2.1, f_water, f_wall, f_kind, s9.2.2.1, s9.2.2.2.1, s9.2.2.2.2, f_seeds, s1.2.2.2.2.2, f_z, f_spots))), pr_C rfl hB hP hS⟩ rfl rfl hl.1 rfl (lv_room (Nat.le_of_ble_eq_true rfl)) dX2_pass_75 ⟨Nat.le_refl _, Nat.le_refl _⟩) hS rfl (fun hn20 H locs hP hS => ?_)
                have hP : va_P g.1 vwCl (cw g (S (q19.1, f_water, f_wall, f_kind, q19.2.1, q19.2.2.1, q19.2.2.2, f_seeds, s1.2.2.2.2.2, f_z, f_spots))) H := hP
                refine lv_iinc (v := (s9.1 + (1 : Int32))) (lv' := [(3, .int (s9.1 + (1 : Int32))), (4, .ref (ga g (25 + 8 * k + j14))), (0, .ref (ga g (1 + k))), (1, .int a1), (2, .int s1.1)]) hx hb dX2_pass_78 hl (k := 4) rfl (congrArg (fun y => s9.1 + y) (by decide : Int32.ofInt (1) = (1 : Int32))) (by decide) rfl (fun ls hl => ?_)
                refine lv_goto (tgt := 44) hx hb dX2_pass_81 (by decide) ?_
                exact hback2 _ (Option.some.inj hf).symm H locs ls hP hS (lv_sub hl [2, 3, 4, 0] rfl)
      · intro s4 r2 hf hback2 hexit2 H locs ls hP hS hl
        refine lv_iload_n hx hb dX2_pass_9 rfl (lv_at hl 3 rfl) ?_
        refine lv_aload_n hx hb dX2_pass_10 rfl (lv_at hl 0 rfl) ?_
        refine va_get (D := g.1) (ci := 0) (v := .ref (ga g (16 + k))) (C := RX2) (T := TX2) (N := 8) hx hb hts iwX2 hown hK hP (1 + k) (e_pk hk (hL.1 _) (Q := (s4.2, f_water, f_wall, f_kind, s1.2.2.1, s1.2.2.2.1, s1.2.2.2.2.1, f_seeds, s1.2.2.2.2.2, f_z, f_spots))) rfl 0 (by decide) hw0 (fun _ h9 => h9) rfl dX2_pass_11 ?_
        refine va_alen (v := (36 : Int32)) hx hb hK hP (16 + k) 0 (e_pa hk (hL.1 _) (Q := (s4.2, f_water, f_wall, f_kind, s1.2.2.1, s1.2.2.2.1, s1.2.2.2.2.1, f_seeds, s1.2.2.2.2.2, f_z, f_spots))) rfl rfl dX2_pass_14 ?_
        refine lv_icmp_ge (tgt := 42) hx hb dX2_pass_15 (by decide) (fun hc6 => ?_) (fun hc6 => ?_)
        · have hf := (if_pos hc6).symm.trans hf
          exact hexit2 (s4.1, s4.2) (Option.some.inj hf).symm H locs ls hP hS (lv_sub hl [0, 1, 2] rfl)
        · have hf := (if_neg hc6).symm.trans hf
          refine lv_aload_n hx hb dX2_pass_18 rfl (lv_at hl 0 rfl) ?_
          refine va_get (D := g.1) (ci := 0) (v := .ref (ga g (16 + k))) (C := RX2) (T := TX2) (N := 8) hx hb hts iwX2 hown hK hP (1 + k) (e_pk hk (hL.1 _) (Q := (s4.2, f_water, f_wall, f_kind, s1.2.2.1, s1.2.2.2.1, s1.2.2.2.2.1, f_seeds, s1.2.2.2.2.2, f_z, f_spots))) rfl 0 (by decide) hw0 (fun _ h9 => h9) rfl dX2_pass_19 ?_
          refine lv_iload_n hx hb dX2_pass_22 rfl (lv_at hl 3 rfl) ?_
          refine lv_iconst (v := (0 : Int32)) hx hb dX2_pass_23 (by decide) ?_
          refine lv_aload_n hx hb dX2_pass_24 rfl (lv_at hl 0 rfl) ?_
          refine va_get (D := g.1) (ci := 0) (v := .ref (ga g (16 + k))) (C := RX2) (T := TX2) (N := 8) hx hb hts iwX2 hown hK hP (1 + k) (e_pk hk (hL.1 _) (Q := (s4.2, f_water, f_wall, f_kind, s1.2.2.1, s1.2.2.2.1, s1.2.2.2.2.1, f_seeds, s1.2.2.2.2.2, f_z, f_spots))) rfl 0 (by decide) hw0 (fun _ h9 => h9) rfl dX2_pass_25 ?_
          refine lv_iload_n hx hb dX2_pass_28 rfl (lv_at hl 3 rfl) ?_
          obtain ⟨hg7, hf⟩ := gd_some hf
          refine va_iald (f := s4.2) hx hb hK hP (16 + k) 0 (e_pa hk (hL.1 _) (Q := (s4.2, f_water, f_wall, f_kind, s1.2.2.1, s1.2.2.2.1, s1.2.2.2.2.1, f_seeds, s1.2.2.2.2.2, f_z, f_spots))) rfl hg7 dX2_pass_29 ?_
          refine lv_iconst (v := (1 : Int32)) hx hb dX2_pass_30 (by decide) ?_
          refine lv_isub hx hb dX2_pass_31 ?_
          refine va_mmax hx hb (hml.trans hl.1.symm) hown hw1 hw2 hw3 hw4 (Nat.le_of_ble_eq_true rfl) (Nat.le_of_ble_eq_true rfl) (Nat.le_of_ble_eq_true rfl) (Nat.le_of_ble_eq_true rfl) dX2_pass_32 ?_
          obtain ⟨hg8, hf⟩ := gd_some hf
          refine va_iast (f := s4.2) hx hb hK hP (cD hB.2.2.1 _) hS (16 + k) 0 (e_pa hk (hL.1 _) (Q := (s4.2, f_water, f_wall, f_kind, s1.2.2.1, s1.2.2.2.1, s1.2.2.2.2.1, f_seeds, s1.2.2.2.2.2, f_z, f_spots))) rfl hg8 dX2_pass_35 (fun H locs hP _ hS => ?_)
          have hP : va_P g.1 vwCl (cw g (S ((upd s4.2 s4.1.toNatClampNeg (if (0 : Int32) < ((s4.2 s4.1.toNatClampNeg) - (1 : Int32)) then ((s4.2 s4.1.toNatClampNeg) - (1 : Int32)) else (0 : Int32))), f_water, f_wall, f_kind, s1.2.2.1, s1.2.2.2.1, s1.2.2.2.2.1, f_seeds, s1.2.2.2.2.2, f_z, f_spots))) H := w_eq (s_paths (S := S) (P := (s4.2, f_water, f_wall, f_kind, s1.2.2.1, s1.2.2.2.1, s1.2.2.2.2.1, f_seeds, s1.2.2.2.2.2, f_z, f_spots)) (upd s4.2 s4.1.toNatClampNeg (if (0 : Int32) < ((s4.2 s4.1.toNatClampNeg) - (1 : Int32)) then ((s4.2 s4.1.toNatClampNeg) - (1 : Int32)) else (0 : Int32))) hk hL) hP
          refine lv_iinc (v := (s4.1 + (1 : Int32))) (lv' := [(3, .int (s4.1 + (1 : Int32))), (0, .ref (ga g (1 + k))), (1, .int a1), (2, .int s1.1)]) hx hb dX2_pass_36 hl (k := 3) rfl (congrArg (fun y => s4.1 + y) (by decide : Int32.ofInt (1) = (1 : Int32))) (by decide) rfl (fun ls hl => ?_)
          refine lv_goto (tgt := 9) hx hb dX2_pass_39 (by decide) ?_
          exact hback2 _ (Option.some.inj hf).symm H locs ls hP hS (lv_sub hl [1, 2, 3, 0] rfl)
set_option maxHeartbeats 4000000 in
set_option maxRecDepth 100000 in
theorem ct_X2_pathCells (l : Launch) (n : Nat) (g : GC) (σ : CS) (k : Nat) (hk : k < 3) (f_paths : Nat → Int32) (f_water : Int64) (f_wall : Int64) (f_kind : Nat → Int32) (f_place : Nat → Int32) (f_facing : Nat → Int32) (f_age : Nat → Int32) (f_seeds : Int32) (f_season : Int32) (f_z : Int32) (f_spots : Nat → Int32) (he : σ.1 k = (f_paths, f_water, f_wall, f_kind, f_place, f_facing, f_age, f_seeds, f_season, f_z, f_spots)) (res : Int32) (hf : fX2_pathCells n f_paths = some res) : Met l yX2_pathCells wsX2_pathCells ({ frames := 2, cells := 0, slots := 0, locals := 43 }) (va_Pc [.ref (ga g (1 + k))] (cI g σ)) (qS (some (.int res)) True) 0 0 (fun _ => False) := by
  refine Met.ofW (cc := cX2_pathCells) (maxL := 1) (ret := (some .int)) (by decide) rfl ?_
  intro p e s m args below meth c s₁ B hml hv
  obtain ⟨rfl, hI⟩ := hv
  have hx := B.exec
  have hb := B.bytes
  have hr := B.returns
  have hts := atoms_spec (ws := wsX2_pathCells) B.pre
  have hown : s.vm.findClass RX2 = some m.cls := findClass_of_methodNamed B.named
  have hlocks := B.notSynchronized
  have hP := hI.1
  have hB := hI.2
  have hK := hB.1
  have hNW := hB.2.1
  have hS : va_S (gA g) s.heap s.heap [] := va_S.rf
  have hl := lv_entry ([.ref (ga g (1 + k))]) (n := 1) (Nat.le_of_ble_eq_true rfl)
  rw [lg_entry_eq]
  generalize (lg_sl ([.ref (ga g (1 + k))]) ++ List.replicate (1 - (lg_sl ([.ref (ga g (1 + k))])).length) Slot.unset).toArray = ls at hl ⊢
  have hl : lv_has ls 1 [(0, .ref (ga g (1 + k)))] := hl
  unfold fX2_pathCells at hf
  refine lv_aload_n hx hb dX2_pathCells_0 rfl (lv_at hl 0 rfl) ?_
  obtain ⟨q1, hq1, hf⟩ := bd_some hf
  refine kr_S (st1 := [.long q1]) (va_runV (As := []) (rest := []) ⟨hx, hb, hml, hown, hts⟩ (ct_X2_pathSet l n g σ k hk f_paths f_water f_wall f_kind f_place f_facing f_age f_seeds f_season f_z f_spots he q1 hq1) (cwV 0 hts gX2_pathCells_X2_pathSet rfl rfl rfl hd_X2_pathSet ⟨Nat.le_of_ble_eq_true rfl, Nat.le_of_ble_eq_true rfl⟩) ⟨bl_C, va_recv hK hP (ci := 0) (q0 := (1 + k)) rfl (e_pk hk he (Q := (f_paths, f_water, f_wall, f_kind, f_place, f_facing, f_age, f_seeds, f_season, f_z, f_spots))), pr_C rfl hB hP hS⟩ rfl rfl hl.1 rfl (lv_room (Nat.le_of_ble_eq_true rfl)) dX2_pathCells_1 ⟨Nat.le_refl _, Nat.le_refl _⟩) rfl (fun hn2 => ?_)
  obtain ⟨q3, hq3, hf⟩ := bd_some hf
  refine kr_S (st1 := [.int q3]) (va_runS (As := [.long q1]) (rest := []) ⟨hx, hb, hml, hown, hts⟩ (ct_J13_bitCount_95d88 l n q1 q3 hq3) (va_cwS 1 hts gX2_pathCells_J13_bitCount_95d88 rfl rfl rfl hn_J13_bitCount_95d88 ⟨Nat.le_of_ble_eq_true rfl, Nat.le_of_ble_eq_true rfl⟩) ⟨bl_N, pr_N rfl hNW⟩ rfl rfl hl.1 rfl (lv_room (Nat.le_of_ble_eq_true rfl)) dX2_pathCells_4 ⟨Nat.le_refl _, Nat.le_refl _⟩) rfl (fun hn4 => ?_)
  have hres : q3 = res := (Option.some.inj hf)
  exact W.iret (v := q3) hx hb hr (fun t ht hW => ⟨congrArg (fun z => Outcome.returned (some (Value.int z))) hres, trivial, ht⟩) t_nil dX2_pathCells_7
set_option maxHeartbeats 4000000 in
set_option maxRecDepth 100000 in
theorem ct_X6_go (l : Launch) (n : Nat) (g : GC) (p0_paths : Nat → Int32) (p0_water : Int64) (p0_wall : Int64) (p0_kind : Nat → Int32) (p0_place : Nat → Int32) (p0_facing : Nat → Int32) (p0_age : Nat → Int32) (p0_seeds : Int32) (p0_season : Int32) (p0_z : Int32) (p0_spots : Nat → Int32) (p1_paths : Nat → Int32) (p1_water : Int64) (p1_wall : Int64) (p1_kind : Nat → Int32) (p1_place : Nat → Int32) (p1_facing : Nat → Int32) (p1_age : Nat → Int32) (p1_seeds : Int32) (p1_season : Int32) (p1_z : Int32) (p1_spots : Nat → Int32) (p2_paths : Nat → Int32) (p2_water : Int64) (p2_wall : Int64) (p2_kind : Nat → Int32) (p2_place : Nat → Int32) (p2_facing : Nat → Int32) (p2_age : Nat → Int32) (p2_seeds : Int32) (p2_season : Int32) (p2_z : Int32) (p2_spots : Nat → Int32) (t_bytes : Nat → Int32) (t_length : Int32) (t_sort : Int32) (t_start : Int32) (t_end : Int32) (t_value : Int32) (h_numbers : Nat → Nat → Int32) (h_bits : Nat → Int32) (h_size : Nat → Int32) (w_isKept : Int32) (w_told : Nat → Int32) (a1 : Int32) (res : Int32 × (Nat → Int32) × (Nat → Int32) × (Nat → Int32) × (Nat → Int32) × Int32 × (Nat → Int32)) (hf : fX6_go n a1 p0_paths p0_water p0_wall p0_kind p0_place p0_facing p0_age p0_seeds p0_season w_told = some res) : Met l yX6_go wsX6_go ({ frames := 6, cells := 0, slots := 0, locals := 139 }) (va_Pc [.ref (ga g 0), .int a1] (cI g (pk3 (p0_paths, p0_water, p0_wall, p0_kind, p0_place, p0_facing, p0_age, p0_seeds, p0_season, p0_z, p0_spots) (p1_paths, p1_water, p1_wall, p1_kind, p1_place, p1_facing, p1_age, p1_seeds, p1_season, p1_z, p1_spots) (p2_paths, p2_water, p2_wall, p2_kind, p2_place, p2_facing, p2_age, p2_seeds, p2_season, p2_z, p2_spots), w_isKept, (t_bytes, t_length, t_sort, t_start, t_end, t_value), (h_numbers, h_bits, h_size), w_told))) (qW (some (.int res.1)) True g.1 (cw g (pk3 (res.2.1, p0_water, p0_wall, p0_kind, res.2.2.1, res.2.2.2.1, res.2.2.2.2.1, p0_seeds, res.2.2.2.2.2.1, p0_z, p0_spots) (p1_paths, p1_water, p1_wall, p1_kind, p1_place, p1_facing, p1_age, p1_seeds, p1_season, p1_z, p1_spots) (p2_paths, p2_water, p2_wall, p2_kind, p2_place, p2_facing, p2_age, p2_seeds, p2_season, p2_z, p2_spots), w_isKept, (t_bytes, t_length, t_sort, t_start, t_end, t_value), (h_numbers, h_bits, h_size), res.2.2.2.2.2.2)) (gA g)) 0 0 (gA g) := by
  refine Met.ofW (cc := cX6_go) (maxL := 2) (ret := (some .int)) (by decide) rfl ?_
  intro p e s m args below meth c s₁ B hml hv
  obtain ⟨rfl, hI⟩ := hv
  have hx := B.exec
  have hb := B.bytes
  have hr := B.returns
  have hts := atoms_spec (ws := wsX6_go) B.pre
  have hown : s.vm.findClass RX6 = some m.cls := findClass_of_methodNamed B.named
  have hlocks := B.notSynchronized
  have hP := hI.1
  have hB := hI.2
  have hK := hB.1
  have hNW := hB.2.1
  have hS : va_S (gA g) s.heap s.heap [] := va_S.rf
  have hw0 := hts (.fieldLink RX6 10 "SownPaths" "park" "LSownPaths$Park;") (by decide +kernel)
  have hw1 := hts (.constant RX6 152 (99999)) (by decide +kernel)
  have iwX2 : ∀ w ∈ wsX20, w ∈ wsX6_go := fun w h => List.mem_cons_of_mem _ (List.mem_append_left _ (List.mem_append_right _ h))
  have iwX6 : ∀ w ∈ wsX60, w ∈ wsX6_go := fun w h => List.mem_cons_of_mem _ (List.mem_append_left _ (List.mem_append_left _ (List.mem_append_right _ h)))
  have hl := lv_entry ([.ref (ga g 0), .int a1]) (n := 2) (Nat.le_of_ble_eq_true rfl)
  rw [lg_entry_eq]
  generalize (lg_sl ([.ref (ga g 0), .int a1]) ++ List.replicate (2 - (lg_sl ([.ref (ga g 0), .int a1])).length) Slot.unset).toArray = ls at hl ⊢
  have hl : lv_has ls 2 [(0, .ref (ga g 0)), (1, .int a1)] := hl
  unfold fX6_go at hf
  refine lv_iload_n hx hb dX6_go_0 rfl (lv_at hl 1 rfl) ?_
  refine lv_iconst (v := (1 : Int32)) hx hb dX6_go_1 (by decide) ?_
  refine lv_bipush (v := (40 : Int32)) hx hb dX6_go_2 (by decide) ?_
  obtain ⟨q1, hq1, hf⟩ := bd_some hf
  refine kr_S (st1 := [.int q1]) (va_runS (As := [.int a1, .int (1 : Int32), .int (40 : Int32)]) (rest := []) ⟨hx, hb, hml, hown, hts⟩ (ct_X6_within l n a1 (1 : Int32) (40 : Int32) q1 hq1) (va_cwS 3 hts gX6_go_X6_within rfl rfl rfl hn_X6_within ⟨Nat.le_of_ble_eq_true rfl, Nat.le_of_ble_eq_true rfl⟩) ⟨bl_N, pr_N rfl hNW⟩ rfl rfl hl.1 rfl (lv_room (Nat.le_of_ble_eq_true rfl)) dX6_go_4 ⟨Nat.le_refl _, Nat.le_refl _⟩) rfl (fun hn2 => ?_)
  refine lv_if_ne (tgt := 16) hx hb dX6_go_7 (by decide) (fun hc3 => ?_) (fun hc3 => ?_)
  · have hf := (if_neg hc3).symm.trans hf
    refine lv_aload_n hx hb dX6_go_16 rfl (lv_at hl 0 rfl) ?_
    refine va_get (D := g.1) (ci := 4) (v := .ref (ga g (1 + 0))) (C := RX6) (T := TX6) (N := 7) hx hb hts iwX6 hown hK hP 0 q_sp rfl 0 (by decide) hw0 (fun _ h9 => h9) rfl dX6_go_17 ?_
    refine va_getN (D := g.1) (ci := 0) (v := .int p0_season) (C := RX2) (T := TX2) (N := 8) hx hb hts iwX2 hown hK hP (1 + 0) (e_pk (by decide) rfl (Q := (p0_paths, p0_water, p0_wall, p0_kind, p0_place, p0_facing, p0_age, p0_seeds, p0_season, p0_z, p0_spots))) rfl 5 (by decide) (nf_X6_149 hNW) (fun _ h9 => h9) rfl dX6_go_20 ?_
    refine lv_iload_n hx hb dX6_go_23 rfl (lv_at hl 1 rfl) ?_
    refine lv_iadd hx hb dX6_go_24 ?_
    refine lv_ldc (v := (99999 : Int32)) hx hb hown hw1 dX6_go_25 ?_
    refine lv_icmp_le (tgt := 36) hx hb dX6_go_27 (by decide) (fun hc4 => ?_) (fun hc4 => ?_)
    · have hf := (if_pos hc4).symm.trans hf
      refine lv_aload_n hx hb dX6_go_36 rfl (lv_at hl 0 rfl) ?_
      refine va_get (D := g.1) (ci := 4) (v := .ref (ga g (1 + 0))) (C := RX6) (T := TX6) (N := 7) hx hb hts iwX6 hown hK hP 0 q_sp rfl 0 (by decide) hw0 (fun _ h9 => h9) rfl dX6_go_37 ?_
      refine lv_iload_n hx hb dX6_go_40 rfl (lv_at hl 1 rfl) ?_
      obtain ⟨q5, hq5, hf⟩ := bd_some hf
      refine kr_W (st1 := []) (va_runV (As := [.int a1]) (rest := []) ⟨hx, hb, hml, hown, hts⟩ (ct_X2_pass l n g (fun P => (pk3 P (p1_paths, p1_water, p1_wall, p1_kind, p1_place, p1_facing, p1_age, p1_seeds, p1_season, p1_z, p1_spots) (p2_paths, p2_water, p2_wall, p2_kind, p2_place, p2_facing, p2_age, p2_seeds, p2_season, p2_z, p2_spots), w_isKept, (t_bytes, t_length, t_sort, t_start, t_end, t_value), (h_numbers, h_bits, h_size), w_told)) 0 (by decide) zP0 p0_paths p0_water p0_wall p0_kind p0_place p0_facing p0_age p0_seeds p0_season p0_z p0_spots a1 q5 hq5) (cwV 1 hts gX6_go_X2_pass rfl rfl rfl hd_X2_pass ⟨Nat.le_of_ble_eq_true rfl, Nat.le_of_ble_eq_true rfl⟩) ⟨bl_C, va_recv hK hP (ci := 0) (q0 := (1 + 0)) rfl (e_pk (by decide) rfl (Q := (p0_paths, p0_water, p0_wall, p0_kind, p0_place, p0_facing, p0_age, p0_seeds, p0_season, p0_z, p0_spots))), pr_C rfl hB hP hS⟩ rfl rfl hl.1 rfl (lv_room (Nat.le_of_ble_eq_true rfl)) dX6_go_41 ⟨Nat.le_refl _, Nat.le_refl _⟩) hS rfl (fun hn6 H locs hP hS => ?_)
      have hP : va_P g.1 vwCl (cw g (pk3 (q5.1, p0_water, p0_wall, p0_kind, q5.2.1, q5.2.2.1, q5.2.2.2.1, p0_seeds, q5.2.2.2.2, p0_z, p0_spots) (p1_paths, p1_water, p1_wall, p1_kind, p1_place, p1_facing, p1_age, p1_seeds, p1_season, p1_z, p1_spots) (p2_paths, p2_water, p2_wall, p2_kind, p2_place, p2_facing, p2_age, p2_seeds, p2_season, p2_z, p2_spots), w_isKept, (t_bytes, t_length, t_sort, t_start, t_end, t_value), (h_numbers, h_bits, h_size), w_told)) H := hP
      refine lv_aload_n hx hb dX6_go_44 rfl (lv_at hl 0 rfl) ?_
      refine va_get (D := g.1) (ci := 4) (v := .ref (ga g (1 + 0))) (C := RX6) (T := TX6) (N := 7) hx hb hts iwX6 hown hK hP 0 q_sp rfl 0 (by decide) hw0 (fun _ h9 => h9) rfl dX6_go_45 ?_
      obtain ⟨q7, hq7, hf⟩ := bd_some hf
      refine kr_S (st1 := [.int q7]) (va_runV (As := []) (rest := []) ⟨hx, hb, hml, hown, hts⟩ (ct_X2_pathCells l n g (pk3 (q5.1, p0_water, p0_wall, p0_kind, q5.2.1, q5.2.2.1, q5.2.2.2.1, p0_seeds, q5.2.2.2.2, p0_z, p0_spots) (p1_paths, p1_water, p1_wall, p1_kind, p1_place, p1_facing, p1_age, p1_seeds, p1_season, p1_z, p1_spots) (p2_paths, p2_water, p2_wall, p2_kind, p2_place, p2_facing, p2_age, p2_seeds, p2_season, p2_z, p2_spots), w_isKept, (t_bytes, t_length, t_sort, t_start, t_end, t_value), (h_numbers, h_bits, h_size), w_told) 0 (by decide) q5.1 p0_water p0_wall p0_kind q5.2.1 q5.2.2.1 q5.2.2.2.1 p0_seeds q5.2.2.2.2 p0_z p0_spots rfl q7 hq7) (cwV 0 hts gX6_go_X2_pathCells rfl rfl rfl hd_X2_pathCells ⟨Nat.le_of_ble_eq_true rfl, Nat.le_of_ble_eq_true rfl⟩) ⟨bl_C, va_recv hK hP (ci := 0) (q0 := (1 + 0)) rfl (e_pk (by decide) rfl (Q := (q5.1, p0_water, p0_wall, p0_kind, q5.2.1, q5.2.2.1, q5.2.2.2.1, p0_seeds, q5.2.2.2.2, p0_z, p0_spots))), pr_C rfl hB hP hS⟩ rfl rfl hl.1 rfl (lv_room (Nat.le_of_ble_eq_true rfl)) dX6_go_48 ⟨Nat.le_refl _, Nat.le_refl _⟩) rfl (fun hn8 => ?_)
      have hres : (q7, q5.1, q5.2.1, q5.2.2.1, q5.2.2.2.1, q5.2.2.2.2, w_told) = res := (Option.some.inj hf)
      have hP := w_eq (congrArg (fun z => cw g (pk3 (z.2.1, p0_water, p0_wall, p0_kind, z.2.2.1, z.2.2.2.1, z.2.2.2.2.1, p0_seeds, z.2.2.2.2.2.1, p0_z, p0_spots) (p1_paths, p1_water, p1_wall, p1_kind, p1_place, p1_facing, p1_age, p1_seeds, p1_season, p1_z, p1_spots) (p2_paths, p2_water, p2_wall, p2_kind, p2_place, p2_facing, p2_age, p2_seeds, p2_season, p2_z, p2_spots), w_isKept, (t_bytes, t_length, t_sort, t_start, t_end, t_value), (h_numbers, h_bits, h_size), z.2.2.2.2.2.2)) hres) hP
      exact W.iret (v := q7) hx hb hr (fun t ht hW => ⟨congrArg (fun z => Outcome.returned (some (Value.int z.1))) hres, trivial, by rw [ht]; exact hP, hS.F ht⟩) hS.2.2 dX6_go_51
    · have hf := (if_neg hc4).symm.trans hf
      refine lv_aload_n hx hb dX6_go_30 rfl (lv_at hl 0 rfl) ?_
      refine lv_iconst (v := (4 : Int32)) hx hb dX6_go_31 (by decide) ?_
      obtain ⟨q9, hq9, hf⟩ := bd_some hf
      refine kr_W (st1 := [.int q9.1]) (va_runV (As := [.int (4 : Int32)]) (rest := []) ⟨hx, hb, hml, hown, hts⟩ (ct_X6_finding l n g p0_paths p0_water p0_wall p0_kind p0_place p0_facing p0_age p0_seeds p0_season p0_z p0_spots p1_paths p1_water p1_wall p1_kind p1_place p1_facing p1_age p1_seeds p1_season p1_z p1_spots p2_paths p2_water p2_wall p2_kind p2_place p2_facing p2_age p2_seeds p2_season p2_z p2_spots t_bytes t_length t_sort t_start t_end t_value h_numbers h_bits h_size w_isKept w_told (4 : Int32) q9 hq9) (cwV 1 hts gX6_go_X6_finding rfl rfl rfl hd_X6_finding ⟨Nat.le_of_ble_eq_true rfl, Nat.le_of_ble_eq_true rfl⟩) ⟨bl_C, va_recv hK hP (ci := 4) (q0 := 0) rfl q_sp, pr_C rfl hB hP hS⟩ rfl rfl hl.1 rfl (lv_room (Nat.le_of_ble_eq_true rfl)) dX6_go_32 ⟨Nat.le_refl _, Nat.le_refl _⟩) hS rfl (fun hn10 H locs hP hS => ?_)
      have hP : va_P g.1 vwCl (cw g (pk3 (p0_paths, p0_water, p0_wall, p0_kind, p0_place, p0_facing, p0_age, p0_seeds, p0_season, p0_z, p0_spots) (p1_paths, p1_water, p1_wall, p1_kind, p1_place, p1_facing, p1_age, p1_seeds, p1_season, p1_z, p1_spots) (p2_paths, p2_water, p2_wall, p2_kind, p2_place, p2_facing, p2_age, p2_seeds, p2_season, p2_z, p2_spots), w_isKept, (t_bytes, t_length, t_sort, t_start, t_end, t_value), (h_numbers, h_bits, h_size), q9.2)) H := hP
      have hres : (q9.1, p0_paths, p0_place, p0_facing, p0_age, p0_season, q9.2) = res := (Option.some.inj hf)
      have hP := w_eq (congrArg (fun z => cw g (pk3 (z.2.1, p0_water, p0_wall, p0_kind, z.2.2.1, z.2.2.2.1, z.2.2.2.2.1, p0_seeds, z.2.2.2.2.2.1, p0_z, p0_spots) (p1_paths, p1_water, p1_wall, p1_kind, p1_place, p1_facing, p1_age, p1_seeds, p1_season, p1_z, p1_spots) (p2_paths, p2_water, p2_wall, p2_kind, p2_place, p2_facing, p2_age, p2_seeds, p2_season, p2_z, p2_spots), w_isKept, (t_bytes, t_length, t_sort, t_start, t_end, t_value), (h_numbers, h_bits, h_size), z.2.2.2.2.2.2)) hres) hP
      exact W.iret (v := q9.1) hx hb hr (fun t ht hW => ⟨congrArg (fun z => Outcome.returned (some (Value.int z.1))) hres, trivial, by rw [ht]; exact hP, hS.F ht⟩) hS.2.2 dX6_go_35
  · have hf := (if_pos hc3).symm.trans hf
    refine lv_aload_n hx hb dX6_go_10 rfl (lv_at hl 0 rfl) ?_
    refine lv_iconst (v := (0 : Int32)) hx hb dX6_go_11 (by decide) ?_
    obtain ⟨q11, hq11, hf⟩ := bd_some hf
    refine kr_W (st1 := [.int q11.1]) (va_runV (As := [.int (0 : Int32)]) (rest := []) ⟨hx, hb, hml, hown, hts⟩ (ct_X6_finding l n g p0_paths p0_water p0_wall p0_kind p0_place p0_facing p0_age p0_seeds p0_season p0_z p0_spots p1_paths p1_water p1_wall p1_kind p1_place p1_facing p1_age p1_seeds p1_season p1_z p1_spots p2_paths p2_water p2_wall p2_kind p2_place p2_facing p2_age p2_seeds p2_season p2_z p2_spots t_bytes t_length t_sort t_start t_end t_value h_numbers h_bits h_size w_isKept w_told (0 : Int32) q11 hq11) (cwV 1 hts gX6_go_X6_finding rfl rfl rfl hd_X6_finding ⟨Nat.le_of_ble_eq_true rfl, Nat.le_of_ble_eq_true rfl⟩) ⟨bl_C, va_recv hK hP (ci := 4) (q0 := 0) rfl q_sp, pr_C rfl hB hP hS⟩ rfl rfl hl.1 rfl (lv_room (Nat.le_of_ble_eq_true rfl)) dX6_go_12 ⟨Nat.le_refl _, Nat.le_refl _⟩) hS rfl (fun hn12 H locs hP hS => ?_)
    have hP : va_P g.1 vwCl (cw g (pk3 (p0_paths, p0_water, p0_wall, p0_kind, p0_place, p0_facing, p0_age, p0_seeds, p0_season, p0_z, p0_spots) (p1_paths, p1_water, p1_wall, p1_kind, p1_place, p1_facing, p1_age, p1_seeds, p1_season, p1_z, p1_spots) (p2_paths, p2_water, p2_wall, p2_kind, p2_place, p2_facing, p2_age, p2_seeds, p2_season, p2_z, p2_spots), w_isKept, (t_bytes, t_length, t_sort, t_start, t_end, t_value), (h_numbers, h_bits, h_size), q11.2)) H := hP
    have hres : (q11.1, p0_paths, p0_place, p0_facing, p0_age, p0_season, q11.2) = res := (Option.some.inj hf)
    have hP := w_eq (congrArg (fun z => cw g (pk3 (z.2.1, p0_water, p0_wall, p0_kind, z.2.2.1, z.2.2.2.1, z.2.2.2.2.1, p0_seeds, z.2.2.2.2.2.1, p0_z, p0_spots) (p1_paths, p1_water, p1_wall, p1_kind, p1_place, p1_facing, p1_age, p1_seeds, p1_season, p1_z, p1_spots) (p2_paths, p2_water, p2_wall, p2_kind, p2_place, p2_facing, p2_age, p2_seeds, p2_season, p2_z, p2_spots), w_isKept, (t_bytes, t_length, t_sort, t_start, t_end, t_value), (h_numbers, h_bits, h_size), z.2.2.2.2.2.2)) hres) hP
    exact W.iret (v := q11.1) hx hb hr (fun t ht hW => ⟨congrArg (fun z => Outcome.returned (some (Value.int z.1))) hres, trivial, by rw [ht]; exact hP, hS.F ht⟩) hS.2.2 dX6_go_15
set_option maxHeartbeats 4000000 in
set_option maxRecDepth 100000 in
theorem ct_X2_aliveSet (l : Launch) (n : Nat) (g : GC) (σ : CS) (k : Nat) (hk : k < 3) (f_paths : Nat → Int32) (f_water : Int64) (f_wall : Int64) (f_kind : Nat → Int32) (f_place : Nat → Int32) (f_facing : Nat → Int32) (f_age : Nat → Int32) (f_seeds : Int32) (f_season : Int32) (f_z : Int32) (f_spots : Nat → Int32) (he : σ.1 k = (f_paths, f_water, f_wall, f_kind, f_place, f_facing, f_age, f_seeds, f_season, f_z, f_spots)) (res : Int32) (hf : fX2_aliveSet n f_kind f_age f_seeds = some res) : Met l yX2_aliveSet wsX2_aliveSet ({ frames := 2, cells := 0, slots := 0, locals := 42 }) (va_Pc [.ref (ga g (1 + k))] (cI g σ)) (qS (some (.int res)) True) 0 0 (fun _ => False) := by
  refine Met.ofW (cc := cX2_aliveSet) (maxL := 4) (ret := (some .int)) (by decide) rfl ?_
  intro p e s m args below meth c s₁ B hml hv
  obtain ⟨rfl, hI⟩ := hv
  have hx := B.exec
  have hb := B.bytes
  have hr := B.returns
  have hts := atoms_spec (ws := wsX2_aliveSet) B.pre
  have hown : s.vm.findClass RX2 = some m.cls := findClass_of_methodNamed B.named
  have hlocks := B.notSynchronized
  have hP := hI.1
  have hB := hI.2
  have hK := hB.1
  have hNW := hB.2.1
  have hS : va_S (gA g) s.heap s.heap [] := va_S.rf
  have hw0 := hts (.fieldLink RX2 48 "SownPaths$Park" "seeds" "I") (by decide +kernel)
  have iwX2 : ∀ w ∈ wsX20, w ∈ wsX2_aliveSet := fun w h => List.mem_cons_of_mem _ (List.mem_append_left _ (List.mem_append_right _ h))
  have hl := lv_entry ([.ref (ga g (1 + k))]) (n := 4) (Nat.le_of_ble_eq_true rfl)
  rw [lg_entry_eq]
  generalize (lg_sl ([.ref (ga g (1 + k))]) ++ List.replicate (4 - (lg_sl ([.ref (ga g (1 + k))])).length) Slot.unset).toArray = ls at hl ⊢
  have hl : lv_has ls 4 [(0, .ref (ga g (1 + k)))] := hl
  unfold fX2_aliveSet at hf
  refine lv_iconst (v := (0 : Int32)) hx hb dX2_aliveSet_0 (by decide) ?_
  refine lv_istore_n (lv' := [(1, .int (0 : Int32)), (0, .ref (ga g (1 + k)))]) hx hb dX2_aliveSet_1 rfl hl (by decide) rfl (fun ls hl => ?_)
  refine lv_iconst (v := (0 : Int32)) hx hb dX2_aliveSet_2 (by decide) ?_
  refine lv_istore_n (lv' := [(2, .int (0 : Int32)), (1, .int (0 : Int32)), (0, .ref (ga g (1 + k)))]) hx hb dX2_aliveSet_3 rfl hl (by decide) rfl (fun ls hl => ?_)
  refine lp_run hf (fun s1 => ∀ (ls : Array Slot), lv_has ls 4 [(0, .ref (ga g (1 + k))), (1, .int s1.1), (2, .int s1.2)] → W p l e (headSpec wsX2_aliveSet ({ frames := 2, cells := 0, slots := 0, locals := 42 })).room s m ([.ref (ga g (1 + k))] : List Value).toArray below meth c s.heap [] 0 0 (MQ below (qS (some (.int res)) True) ([.ref (ga g (1 + k))] : List Value).toArray s 0 0 (fun _ => False)) (F0 m 4 ls [])) (fun v2 => ∀ (ls : Array Slot), lv_has ls 4 [(1, .int v2.1)] → W p l e (headSpec wsX2_aliveSet ({ frames := 2, cells := 0, slots := 0, locals := 42 })).room s m ([.ref (ga g (1 + k))] : List Value).toArray below meth c s.heap [] 0 0 (MQ below (qS (some (.int res)) True) ([.ref (ga g (1 + k))] : List Value).toArray s 0 0 (fun _ => False)) (F0 m 41 ls [])) ?_ ?_ _ (lv_sub hl [2, 1, 0] rfl)
  · intro v2 hf ls hl
    refine lv_iload_n hx hb dX2_aliveSet_41 rfl (lv_at hl 0 rfl) ?_
    have hres : v2.1 = res := (Option.some.inj hf)
    exact W.iret (v := v2.1) hx hb hr (fun t ht hW => ⟨congrArg (fun z => Outcome.returned (some (Value.int z))) hres, trivial, ht⟩) t_nil dX2_aliveSet_42
  · intro s1 r1 hf hback1 hexit1 ls hl
    refine lv_iload_n hx hb dX2_aliveSet_4 rfl (lv_at hl 2 rfl) ?_
    refine lv_aload_n hx hb dX2_aliveSet_5 rfl (lv_at hl 0 rfl) ?_
    refine va_get (D := g.1) (ci := 0) (v := .int f_seeds) (C := RX2) (T := TX2) (N := 8) hx hb hts iwX2 hown hK hP (1 + k) (e_pk hk he (Q := (f_paths, f_water, f_wall, f_kind, f_place, f_facing, f_age, f_seeds, f_season, f_z, f_spots))) rfl 4 (by decide) hw0 (fun _ h9 => h9) rfl dX2_aliveSet_6 ?_
    refine lv_icmp_ge (tgt := 41) hx hb dX2_aliveSet_9 (by decide) (fun hc3 => ?_) (fun hc3 => ?_)
    · have hf := (if_pos hc3).symm.trans hf
      exact hexit1 (s1.1, s1.2) (Option.some.inj hf).symm ls (lv_sub hl [1] rfl)
    · have hf := (if_neg hc3).symm.trans hf
      refine lv_aload_n hx hb dX2_aliveSet_12 rfl (lv_at hl 0 rfl) ?_
      refine lv_iload_n hx hb dX2_aliveSet_13 rfl (lv_at hl 2 rfl) ?_
      obtain ⟨q4, hq4, hf⟩ := bd_some hf
      refine kr_S (st1 := [va_rf (Option.map (fun j => ga g (25 + 8 * k + j)) q4)]) (va_runV (As := [.int s1.2]) (rest := []) ⟨hx, hb, hml, hown, hts⟩ (ct_X2_seedAt l n g σ k hk f_paths f_water f_wall f_kind f_place f_facing f_age f_seeds f_season f_z f_spots he s1.2 q4 hq4) (cwV 1 hts gX2_aliveSet_X2_seedAt rfl rfl rfl hd_X2_seedAt ⟨Nat.le_of_ble_eq_true rfl, Nat.le_of_ble_eq_true rfl⟩) ⟨bl_C, va_recv hK hP (ci := 0) (q0 := (1 + k)) rfl (e_pk hk he (Q := (f_paths, f_water, f_wall, f_kind, f_place, f_facing, f_age, f_seeds, f_season, f_z, f_spots))), pr_C rfl hB hP hS⟩ rfl rfl hl.1 rfl (lv_room (Nat.le_of_ble_eq_true rfl)) dX2_aliveSet_14 ⟨Nat.le_refl _, Nat.le_refl _⟩) rfl (fun hn5 => ?_)
      rcases q4 with _ | j6
      · have hf := eo_n hf
        refine W.eq (g2 := F0 m 17 ls [.null]) rfl ?_
        refine lv_astore_nN (lv' := [(3, .null), (0, .ref (ga g (1 + k))), (1, .int s1.1), (2, .int s1.2)]) hx hb dX2_aliveSet_17 rfl hl (by decide) rfl (fun ls hl => ?_)
        refine lv_aload_nN hx hb dX2_aliveSet_18 rfl (lv_at hl 0 rfl) ?_
        refine lv_ifnullN (tgt := 35) hx hb dX2_aliveSet_19 (by decide) ?_
        refine lv_iinc (v := (s1.2 + (1 : Int32))) (lv' := [(2, .int (s1.2 + (1 : Int32))), (3, .null), (0, .ref (ga g (1 + k))), (1, .int s1.1)]) hx hb dX2_aliveSet_35 hl (k := 3) rfl (congrArg (fun y => s1.2 + y) (by decide : Int32.ofInt (1) = (1 : Int32))) (by decide) rfl (fun ls hl => ?_)
        refine lv_goto (tgt := 4) hx hb dX2_aliveSet_38 (by decide) ?_
        exact hback1 _ (Option.some.inj hf).symm ls (lv_sub hl [2, 3, 0] rfl)
      · have hf := eo_s hf
        have hj7 := hn5 _ rfl
        refine W.eq (g2 := F0 m 17 ls [.ref (ga g (25 + 8 * k + j6))]) rfl ?_
        refine lv_astore_n (lv' := [(3, .ref (ga g (25 + 8 * k + j6))), (0, .ref (ga g (1 + k))), (1, .int s1.1), (2, .int s1.2)]) hx hb dX2_aliveSet_17 rfl hl (by decide) rfl (fun ls hl => ?_)
        refine lv_aload_n hx hb dX2_aliveSet_18 rfl (lv_at hl 0 rfl) ?_
        refine lv_ifnull hx hb dX2_aliveSet_19 ?_
        refine lv_aload_n hx hb dX2_aliveSet_22 rfl (lv_at hl 0 rfl) ?_
        obtain ⟨q8, hq8, hf⟩ := bd_some hf
        refine kr_S (st1 := [.int q8]) (va_runV (As := []) (rest := []) ⟨hx, hb, hml, hown, hts⟩ (ct_X3_isAlive l n g σ k hk f_paths f_water f_wall f_kind f_place f_facing f_age f_seeds f_season f_z f_spots he j6 hj7 q8 hq8) (cwV 0 hts gX2_aliveSet_X3_isAlive rfl rfl rfl hd_X3_isAlive ⟨Nat.le_of_ble_eq_true rfl, Nat.le_of_ble_eq_true rfl⟩) ⟨bl_C, va_recv hK hP (ci := 1) (q0 := (25 + 8 * k + j6)) rfl (e_sd hk hj7 he (Q := (f_paths, f_water, f_wall, f_kind, f_place, f_facing, f_age, f_seeds, f_season, f_z, f_spots))), pr_C rfl hB hP hS⟩ rfl rfl hl.1 rfl (lv_room (Nat.le_of_ble_eq_true rfl)) dX2_aliveSet_23 ⟨Nat.le_refl _, Nat.le_refl _⟩) rfl (fun hn9 => ?_)
        refine lv_if_eq (tgt := 35) hx hb dX2_aliveSet_26 (by decide) (fun hc10 => ?_) (fun hc10 => ?_)
        · have hf := (if_pos hc10).symm.trans hf
          refine lv_iinc (v := (s1.2 + (1 : Int32))) (lv' := [(2, .int (s1.2 + (1 : Int32))), (3, .ref (ga g (25 + 8 * k + j6))), (0, .ref (ga g (1 + k))), (1, .int s1.1)]) hx hb dX2_aliveSet_35 hl (k := 3) rfl (congrArg (fun y => s1.2 + y) (by decide : Int32.ofInt (1) = (1 : Int32))) (by decide) rfl (fun ls hl => ?_)
          refine lv_goto (tgt := 4) hx hb dX2_aliveSet_38 (by decide) ?_
          exact hback1 _ (Option.some.inj hf).symm ls (lv_sub hl [2, 3, 0] rfl)
        · have hf := (if_neg hc10).symm.trans hf
          refine lv_iload_n hx hb dX2_aliveSet_29 rfl (lv_at hl 2 rfl) ?_
          refine lv_iconst (v := (1 : Int32)) hx hb dX2_aliveSet_30 (by decide) ?_
          refine lv_iload_n hx hb dX2_aliveSet_31 rfl (lv_at hl 3 rfl) ?_
          refine lv_ishl hx hb dX2_aliveSet_32 ?_
          refine lv_ior hx hb dX2_aliveSet_33 ?_
          refine lv_istore_n (lv' := [(1, .int (s1.1 ||| ((1 : Int32) <<< (s1.2 &&& 31)))), (3, .ref (ga g (25 + 8 * k + j6))), (0, .ref (ga g (1 + k))), (2, .int s1.2)]) hx hb dX2_aliveSet_34 rfl hl (by decide) rfl (fun ls hl => ?_)
          refine lv_iinc (v := (s1.2 + (1 : Int32))) (lv' := [(2, .int (s1.2 + (1 : Int32))), (1, .int (s1.1 ||| ((1 : Int32) <<< (s1.2 &&& 31)))), (3, .ref (ga g (25 + 8 * k + j6))), (0, .ref (ga g (1 + k)))]) hx hb dX2_aliveSet_35 hl (k := 3) rfl (congrArg (fun y => s1.2 + y) (by decide : Int32.ofInt (1) = (1 : Int32))) (by decide) rfl (fun ls hl => ?_)
          refine lv_goto (tgt := 4) hx hb dX2_aliveSet_38 (by decide) ?_
          exact hback1 _ (Option.some.inj hf).symm ls (lv_sub hl [3, 1, 0] rfl)
set_option maxHeartbeats 4000000 in
set_option maxRecDepth 100000 in
theorem ct_X2_pathOfAll (l : Launch) (n : Nat) (g : GC) (σ : CS) (k : Nat) (hk : k < 3) (f_paths : Nat → Int32) (f_water : Int64) (f_wall : Int64) (f_kind : Nat → Int32) (f_place : Nat → Int32) (f_facing : Nat → Int32) (f_age : Nat → Int32) (f_seeds : Int32) (f_season : Int32) (f_z : Int32) (f_spots : Nat → Int32) (he : σ.1 k = (f_paths, f_water, f_wall, f_kind, f_place, f_facing, f_age, f_seeds, f_season, f_z, f_spots)) (res : Int32) (hf : fX2_pathOfAll n f_paths = some res) : Met l yX2_pathOfAll wsX2_pathOfAll ({ frames := 0, cells := 0, slots := 0, locals := 0 }) (va_Pc [.ref (ga g (1 + k))] (cI g σ)) (qS (some (.int res)) True) 0 0 (fun _ => False) := by
  refine Met.ofW (cc := cX2_pathOfAll) (maxL := 3) (ret := (some .int)) (by decide) rfl ?_
  intro p e s m args below meth c s₁ B hml hv
  obtain ⟨rfl, hI⟩ := hv
  have hx := B.exec
  have hb := B.bytes
  have hr := B.returns
  have hts := atoms_spec (ws := wsX2_pathOfAll) B.pre
  have hown : s.vm.findClass RX2 = some m.cls := findClass_of_methodNamed B.named
  have hlocks := B.notSynchronized
  have hP := hI.1
  have hB := hI.2
  have hK := hB.1
  have hNW := hB.2.1
  have hS : va_S (gA g) s.heap s.heap [] := va_S.rf
  have hw0 := hts (.fieldLink RX2 9 "SownPaths$Park" "paths" "[I") (by decide +kernel)
  have iwX2 : ∀ w ∈ wsX20, w ∈ wsX2_pathOfAll := fun w h => List.mem_cons_of_mem _ (List.mem_append_right _ h)
  have hl := lv_entry ([.ref (ga g (1 + k))]) (n := 3) (Nat.le_of_ble_eq_true rfl)
  rw [lg_entry_eq]
  generalize (lg_sl ([.ref (ga g (1 + k))]) ++ List.replicate (3 - (lg_sl ([.ref (ga g (1 + k))])).length) Slot.unset).toArray = ls at hl ⊢
  have hl : lv_has ls 3 [(0, .ref (ga g (1 + k)))] := hl
  unfold fX2_pathOfAll at hf
  refine lv_iconst (v := (0 : Int32)) hx hb dX2_pathOfAll_0 (by decide) ?_
  refine lv_istore_n (lv' := [(1, .int (0 : Int32)), (0, .ref (ga g (1 + k)))]) hx hb dX2_pathOfAll_1 rfl hl (by decide) rfl (fun ls hl => ?_)
  refine lv_iconst (v := (0 : Int32)) hx hb dX2_pathOfAll_2 (by decide) ?_
  refine lv_istore_n (lv' := [(2, .int (0 : Int32)), (1, .int (0 : Int32)), (0, .ref (ga g (1 + k)))]) hx hb dX2_pathOfAll_3 rfl hl (by decide) rfl (fun ls hl => ?_)
  refine lp_run hf (fun s1 => ∀ (ls : Array Slot), lv_has ls 3 [(0, .ref (ga g (1 + k))), (1, .int s1.1), (2, .int s1.2)] → W p l e (headSpec wsX2_pathOfAll ({ frames := 0, cells := 0, slots := 0, locals := 0 })).room s m ([.ref (ga g (1 + k))] : List Value).toArray below meth c s.heap [] 0 0 (MQ below (qS (some (.int res)) True) ([.ref (ga g (1 + k))] : List Value).toArray s 0 0 (fun _ => False)) (F0 m 4 ls [])) (fun v2 => ∀ (ls : Array Slot), lv_has ls 3 [(1, .int v2.1)] → W p l e (headSpec wsX2_pathOfAll ({ frames := 0, cells := 0, slots := 0, locals := 0 })).room s m ([.ref (ga g (1 + k))] : List Value).toArray below meth c s.heap [] 0 0 (MQ below (qS (some (.int res)) True) ([.ref (ga g (1 + k))] : List Value).toArray s 0 0 (fun _ => False)) (F0 m 28 ls [])) ?_ ?_ _ (lv_sub hl [2, 1, 0] rfl)
  · intro v2 hf ls hl
    refine lv_iload_n hx hb dX2_pathOfAll_28 rfl (lv_at hl 0 rfl) ?_
    have hres : v2.1 = res := (Option.some.inj hf)
    exact W.iret (v := v2.1) hx hb hr (fun t ht hW => ⟨congrArg (fun z => Outcome.returned (some (Value.int z))) hres, trivial, ht⟩) t_nil dX2_pathOfAll_29
  · intro s1 r1 hf hback1 hexit1 ls hl
    refine lv_iload_n hx hb dX2_pathOfAll_4 rfl (lv_at hl 2 rfl) ?_
    refine lv_aload_n hx hb dX2_pathOfAll_5 rfl (lv_at hl 0 rfl) ?_
    refine va_get (D := g.1) (ci := 0) (v := .ref (ga g (16 + k))) (C := RX2) (T := TX2) (N := 8) hx hb hts iwX2 hown hK hP (1 + k) (e_pk hk he (Q := (f_paths, f_water, f_wall, f_kind, f_place, f_facing, f_age, f_seeds, f_season, f_z, f_spots))) rfl 0 (by decide) hw0 (fun _ h9 => h9) rfl dX2_pathOfAll_6 ?_
    refine va_alen (v := (36 : Int32)) hx hb hK hP (16 + k) 0 (e_pa hk he (Q := (f_paths, f_water, f_wall, f_kind, f_place, f_facing, f_age, f_seeds, f_season, f_z, f_spots))) rfl rfl dX2_pathOfAll_9 ?_
    refine lv_icmp_ge (tgt := 28) hx hb dX2_pathOfAll_10 (by decide) (fun hc3 => ?_) (fun hc3 => ?_)
    · have hf := (if_pos hc3).symm.trans hf
      exact hexit1 (s1.1, s1.2) (Option.some.inj hf).symm ls (lv_sub hl [1] rfl)
    · have hf := (if_neg hc3).symm.trans hf
      refine lv_iload_n hx hb dX2_pathOfAll_13 rfl (lv_at hl 1 rfl) ?_
      refine lv_aload_n hx hb dX2_pathOfAll_14 rfl (lv_at hl 0 rfl) ?_
      refine va_get (D := g.1) (ci := 0) (v := .ref (ga g (16 + k))) (C := RX2) (T := TX2) (N := 8) hx hb hts iwX2 hown hK hP (1 + k) (e_pk hk he (Q := (f_paths, f_water, f_wall, f_kind, f_place, f_facing, f_age, f_seeds, f_season, f_z, f_spots))) rfl 0 (by decide) hw0 (fun _ h9 => h9) rfl dX2_pathOfAll_15 ?_
      refine lv_iload_n hx hb dX2_pathOfAll_18 rfl (lv_at hl 2 rfl) ?_
      obtain ⟨hg4, hf⟩ := gd_some hf
      refine va_iald (f := f_paths) hx hb hK hP (16 + k) 0 (e_pa hk he (Q := (f_paths, f_water, f_wall, f_kind, f_place, f_facing, f_age, f_seeds, f_season, f_z, f_spots))) rfl hg4 dX2_pathOfAll_19 ?_
      refine lv_iadd hx hb dX2_pathOfAll_20 ?_
      refine lv_istore_n (lv' := [(1, .int (s1.1 + (f_paths s1.2.toNatClampNeg))), (0, .ref (ga g (1 + k))), (2, .int s1.2)]) hx hb dX2_pathOfAll_21 rfl hl (by decide) rfl (fun ls hl => ?_)
      refine lv_iinc (v := (s1.2 + (1 : Int32))) (lv' := [(2, .int (s1.2 + (1 : Int32))), (1, .int (s1.1 + (f_paths s1.2.toNatClampNeg))), (0, .ref (ga g (1 + k)))]) hx hb dX2_pathOfAll_22 hl (k := 2) rfl (congrArg (fun y => s1.2 + y) (by decide : Int32.ofInt (1) = (1 : Int32))) (by decide) rfl (fun ls hl => ?_)
      refine lv_goto (tgt := 4) hx hb dX2_pathOfAll_25 (by decide) ?_
      exact hback1 _ (Option.some.inj hf).symm ls (lv_sub hl [2, 1, 0] rfl)
set_option maxHeartbeats 4000000 in
set_option maxRecDepth 100000 in
theorem ct_X0_benches (l : Launch) (n : Nat) (a0 : Int64) (res : Int64) (hf : fX0_benches n a0 = some res) : Met l yX0_benches wsX0_benches ({ frames := 1, cells := 0, slots := 0, locals := 23 }) (va_Pc [.long a0] NW) (qS (some (.long res)) True) 0 0 (fun _ => False) := by
  refine Met.ofW (cc := cX0_benches) (maxL := 7) (ret := (some .long)) (by decide) rfl ?_
  intro p e s m args below meth c s₁ B hml hv
  obtain ⟨rfl, hI⟩ := hv
  have hx := B.exec
  have hb := B.bytes
  have hr := B.returns
  have hts := atoms_spec (ws := wsX0_benches) B.pre
  have hown : s.vm.findClass RX0 = some m.cls := findClass_of_methodNamed B.named
  have hlocks := B.notSynchronized
  have hNW : NW s := hI
  have hw0 := hts (.initialized RX6) (by decide +kernel)
  have hw1 := hts (.static yX6_bit) (by decide +kernel)
  have hl := lv_entry ([.long a0]) (n := 7) (Nat.le_of_ble_eq_true rfl)
  rw [lg_entry_eq]
  generalize (lg_sl ([.long a0]) ++ List.replicate (7 - (lg_sl ([.long a0])).length) Slot.unset).toArray = ls at hl ⊢
  have hl : lv_has ls 7 [(0, .long a0)] := hl
  unfold fX0_benches at hf
  refine lv_lconst (v := (0 : Int64)) hx hb dX0_benches_0 (by decide) ?_
  refine lv_lstore_n (lv' := [(2, .long (0 : Int64)), (0, .long a0)]) hx hb dX0_benches_1 rfl hl (by decide) rfl (fun ls hl => ?_)
  refine lv_iconst (v := (0 : Int32)) hx hb dX0_benches_2 (by decide) ?_
  refine lv_istore (lv' := [(4, .int (0 : Int32)), (2, .long (0 : Int64)), (0, .long a0)]) hx hb dX0_benches_3 hl (by decide) rfl (fun ls hl => ?_)
  refine lp_run hf (fun s1 => ∀ (ls : Array Slot), lv_has ls 7 [(0, .long a0), (2, .long s1.1), (4, .int s1.2)] → W p l e (headSpec wsX0_benches ({ frames := 1, cells := 0, slots := 0, locals := 23 })).room s m ([.long a0] : List Value).toArray below meth c s.heap [] 0 0 (MQ below (qS (some (.long res)) True) ([.long a0] : List Value).toArray s 0 0 (fun _ => False)) (F0 m 5 ls [])) (fun v2 => ∀ (ls : Array Slot), lv_has ls 7 [(2, .long v2.1)] → W p l e (headSpec wsX0_benches ({ frames := 1, cells := 0, slots := 0, locals := 23 })).room s m ([.long a0] : List Value).toArray below meth c s.heap [] 0 0 (MQ below (qS (some (.long res)) True) ([.long a0] : List Value).toArray s 0 0 (fun _ => False)) (F0 m 53 ls [])) ?_ ?_ _ (lv_sub hl [2, 1, 0] rfl)
  · intro v2 hf ls hl
    refine lv_lload_n hx hb dX0_benches_53 rfl (lv_at hl 0 rfl) ?_
    have hres : v2.1 = res := (Option.some.inj hf)
    exact W.lret (v := v2.1) hx hb hr (fun t ht hW => ⟨congrArg (fun z => Outcome.returned (some (Value.long z))) hres, trivial, ht⟩) t_nil dX0_benches_54
  · intro s1 r1 hf hback1 hexit1 ls hl
    refine lv_iload hx hb dX0_benches_5 (lv_at hl 2 rfl) ?_
    refine lv_bipush (v := (36 : Int32)) hx hb dX0_benches_7 (by decide) ?_
    refine lv_icmp_ge (tgt := 53) hx hb dX0_benches_9 (by decide) (fun hc3 => ?_) (fun hc3 => ?_)
    · have hf := (if_pos hc3).symm.trans hf
      exact hexit1 (s1.1, s1.2) (Option.some.inj hf).symm ls (lv_sub hl [1] rfl)
    · have hf := (if_neg hc3).symm.trans hf
      refine lv_iload hx hb dX0_benches_12 (lv_at hl 2 rfl) ?_
      obtain ⟨q4, hq4, hf⟩ := bd_some hf
      refine kr_S (st1 := [.long q4]) (va_runSN (As := [.int s1.2]) (rest := []) ⟨hx, hb, hml, hown, hts⟩ (ct_X6_bit l n s1.2 q4 hq4) (⟨va_cnB 1 hts gX0_benches_X6_bit_n17 rfl rfl rfl (ml_X0_17 hNW) hw0 hn_X6_bit ⟨Nat.le_of_ble_eq_true rfl, Nat.le_of_ble_eq_true rfl⟩, hw1, trivial⟩) ⟨bl_N, pr_N rfl hNW⟩ rfl rfl hl.1 rfl (lv_room (Nat.le_of_ble_eq_true rfl)) dX0_benches_14 ⟨Nat.le_refl _, Nat.le_refl _⟩) rfl (fun hn5 => ?_)
      refine lv_lstore (lv' := [(5, .long q4), (0, .long a0), (2, .long s1.1), (4, .int s1.2)]) hx hb dX0_benches_17 hl (by decide) rfl (fun ls hl => ?_)
      refine lv_lload_n hx hb dX0_benches_19 rfl (lv_at hl 1 rfl) ?_
      refine lv_lload hx hb dX0_benches_20 (lv_at hl 0 rfl) ?_
      refine lv_land hx hb dX0_benches_22 ?_
      refine lv_lconst (v := (0 : Int64)) hx hb dX0_benches_23 (by decide) ?_
      refine W.lcmp hx hb dX0_benches_24 ?_
      refine lv_if_eq (tgt := 47) hx hb dX0_benches_25 (by decide) (fun hc6 => ?_) (fun hc6 => ?_)
      · have hc6 := (lg_cmp_eq (a0 &&& q4) (0 : Int64)).mp hc6
        have hf := (if_pos hc6).symm.trans hf
        refine lv_iinc (v := (s1.2 + (1 : Int32))) (lv' := [(4, .int (s1.2 + (1 : Int32))), (5, .long q4), (0, .long a0), (2, .long s1.1)]) hx hb dX0_benches_47 hl (k := 3) rfl (congrArg (fun y => s1.2 + y) (by decide : Int32.ofInt (1) = (1 : Int32))) (by decide) rfl (fun ls hl => ?_)
        refine lv_goto (tgt := 5) hx hb dX0_benches_50 (by decide) ?_
        exact hback1 _ (Option.some.inj hf).symm ls (lv_sub hl [2, 3, 0] rfl)
      · have hc6 : ¬ ((a0 &&& q4) = (0 : Int64)) := fun h => hc6 ((lg_cmp_eq (a0 &&& q4) (0 : Int64)).mpr h)
        have hf := (if_neg hc6).symm.trans hf
        refine lv_lload hx hb dX0_benches_28 (lv_at hl 0 rfl) ?_
        obtain ⟨q7, hq7, hf⟩ := bd_some hf
        refine kr_S (st1 := [.long q7]) (va_runS (As := [.long q4]) (rest := []) ⟨hx, hb, hml, hown, hts⟩ (ct_X0_neighbours l n q4 q7 hq7) (va_cwS 1 hts gX0_benches_X0_neighbours rfl rfl rfl hn_X0_neighbours ⟨Nat.le_of_ble_eq_true rfl, Nat.le_of_ble_eq_true rfl⟩) ⟨bl_N, pr_N rfl hNW⟩ rfl rfl hl.1 rfl (lv_room (Nat.le_of_ble_eq_true rfl)) dX0_benches_30 ⟨Nat.le_refl _, Nat.le_refl _⟩) rfl (fun hn8 => ?_)
        refine lv_lload_n hx hb dX0_benches_33 rfl (lv_at hl 1 rfl) ?_
        refine lv_land hx hb dX0_benches_34 ?_
        obtain ⟨q9, hq9, hf⟩ := bd_some hf
        refine kr_S (st1 := [.int q9]) (va_runS (As := [.long (q7 &&& a0)]) (rest := []) ⟨hx, hb, hml, hown, hts⟩ (ct_J13_bitCount_95d88 l n (q7 &&& a0) q9 hq9) (va_cwS 1 hts gX0_benches_J13_bitCount_95d88 rfl rfl rfl hn_J13_bitCount_95d88 ⟨Nat.le_of_ble_eq_true rfl, Nat.le_of_ble_eq_true rfl⟩) ⟨bl_N, pr_N rfl hNW⟩ rfl rfl hl.1 rfl (lv_room (Nat.le_of_ble_eq_true rfl)) dX0_benches_35 ⟨Nat.le_refl _, Nat.le_refl _⟩) rfl (fun hn10 => ?_)
        refine lv_iconst (v := (3 : Int32)) hx hb dX0_benches_38 (by decide) ?_
        refine lv_icmp_lt (tgt := 47) hx hb dX0_benches_39 (by decide) (fun hc11 => ?_) (fun hc11 => ?_)
        · have hf := (if_pos hc11).symm.trans hf
          refine lv_iinc (v := (s1.2 + (1 : Int32))) (lv' := [(4, .int (s1.2 + (1 : Int32))), (5, .long q4), (0, .long a0), (2, .long s1.1)]) hx hb dX0_benches_47 hl (k := 3) rfl (congrArg (fun y => s1.2 + y) (by decide : Int32.ofInt (1) = (1 : Int32))) (by decide) rfl (fun ls hl => ?_)
          refine lv_goto (tgt := 5) hx hb dX0_benches_50 (by decide) ?_
          exact hback1 _ (Option.some.inj hf).symm ls (lv_sub hl [2, 3, 0] rfl)
        · have hf := (if_neg hc11).symm.trans hf
          refine lv_lload_n hx hb dX0_benches_42 rfl (lv_at hl 2 rfl) ?_
          refine lv_lload hx hb dX0_benches_43 (lv_at hl 0 rfl) ?_
          refine lv_lor hx hb dX0_benches_45 ?_
          refine lv_lstore_n (lv' := [(2, .long (s1.1 ||| q4)), (5, .long q4), (0, .long a0), (4, .int s1.2)]) hx hb dX0_benches_46 rfl hl (by decide) rfl (fun ls hl => ?_)
          refine lv_iinc (v := (s1.2 + (1 : Int32))) (lv' := [(4, .int (s1.2 + (1 : Int32))), (2, .long (s1.1 ||| q4)), (5, .long q4), (0, .long a0)]) hx hb dX0_benches_47 hl (k := 3) rfl (congrArg (fun y => s1.2 + y) (by decide : Int32.ofInt (1) = (1 : Int32))) (by decide) rfl (fun ls hl => ?_)
          refine lv_goto (tgt := 5) hx hb dX0_benches_50 (by decide) ?_
          exact hback1 _ (Option.some.inj hf).symm ls (lv_sub hl [3, 1, 0] rfl)
set_option maxHeartbeats 4000000 in
set_option maxRecDepth 100000 in
theorem ct_X6_now (l : Launch) (n : Nat) (g : GC) (p0_paths : Nat → Int32) (p0_water : Int64) (p0_wall : Int64) (p0_kind : Nat → Int32) (p0_place : Nat → Int32) (p0_facing : Nat → Int32) (p0_age : Nat → Int32) (p0_seeds : Int32) (p0_season : Int32) (p0_z : Int32) (p0_spots : Nat → Int32) (p1_paths : Nat → Int32) (p1_water : Int64) (p1_wall : Int64) (p1_kind : Nat → Int32) (p1_place : Nat → Int32) (p1_facing : Nat → Int32) (p1_age : Nat → Int32) (p1_seeds : Int32) (p1_season : Int32) (p1_z : Int32) (p1_spots : Nat → Int32) (p2_paths : Nat → Int32) (p2_water : Int64) (p2_wall : Int64) (p2_kind : Nat → Int32) (p2_place : Nat → Int32) (p2_facing : Nat → Int32) (p2_age : Nat → Int32) (p2_seeds : Int32) (p2_season : Int32) (p2_z : Int32) (p2_spots : Nat → Int32) (t_bytes : Nat → Int32) (t_length : Int32) (t_sort : Int32) (t_start : Int32) (t_end : Int32) (t_value : Int32) (h_numbers : Nat → Nat → Int32) (h_bits : Nat → Int32) (h_size : Nat → Int32) (w_isKept : Int32) (w_told : Nat → Int32) (a1 : Int32) (res : Int32 × (Nat → Int32)) (hf : fX6_now n a1 p0_paths p0_kind p0_age p0_seeds p0_season w_told = some res) : Met l yX6_now wsX6_now ({ frames := 3, cells := 0, slots := 0, locals := 65 }) (va_Pc [.ref (ga g 0), .int a1] (cI g (pk3 (p0_paths, p0_water, p0_wall, p0_kind, p0_place, p0_facing, p0_age, p0_seeds, p0_season, p0_z, p0_spots) (p1_paths, p1_water, p1_wall, p1_kind, p1_place, p1_facing, p1_age, p1_seeds, p1_season, p1_z, p1_spots) (p2_paths, p2_water, p2_wall, p2_kind, p2_place, p2_facing, p2_age, p2_seeds, p2_season, p2_z, p2_spots), w_isKept, (t_bytes, t_length, t_sort, t_start, t_end, t_value), (h_numbers, h_bits, h_size), w_told))) (qW (some (.int res.1)) True g.1 (cw g (pk3 (p0_paths, p0_water, p0_wall, p0_kind, p0_place, p0_facing, p0_age, p0_seeds, p0_season, p0_z, p0_spots) (p1_paths, p1_water, p1_wall, p1_kind, p1_place, p1_facing, p1_age, p1_seeds, p1_season, p1_z, p1_spots) (p2_paths, p2_water, p2_wall, p2_kind, p2_place, p2_facing, p2_age, p2_seeds, p2_season, p2_z, p2_spots), w_isKept, (t_bytes, t_length, t_sort, t_start, t_end, t_value), (h_numbers, h_bits, h_size), res.2)) (gA g)) 0 0 (gA g) := by
  refine Met.ofW (cc := cX6_now) (maxL := 2) (ret := (some .int)) (by decide) rfl ?_
  intro p e s m args below meth c s₁ B hml hv
  obtain ⟨rfl, hI⟩ := hv
  have hx := B.exec
  have hb := B.bytes
  have hr := B.returns
  have hts := atoms_spec (ws := wsX6_now) B.pre
  have hown : s.vm.findClass RX6 = some m.cls := findClass_of_methodNamed B.named
  have hlocks := B.notSynchronized
  have hP := hI.1
  have hB := hI.2
  have hK := hB.1
  have hNW := hB.2.1
  have hS : va_S (gA g) s.heap s.heap [] := va_S.rf
  have hw0 := hts (.fieldLink RX6 10 "SownPaths" "park" "LSownPaths$Park;") (by decide +kernel)
  have iwX2 : ∀ w ∈ wsX20, w ∈ wsX6_now := fun w h => List.mem_cons_of_mem _ (List.mem_append_left _ (List.mem_append_right _ h))
  have iwX6 : ∀ w ∈ wsX60, w ∈ wsX6_now := fun w h => List.mem_cons_of_mem _ (List.mem_append_left _ (List.mem_append_left _ (List.mem_append_right _ h)))
  have hl := lv_entry ([.ref (ga g 0), .int a1]) (n := 2) (Nat.le_of_ble_eq_true rfl)
  rw [lg_entry_eq]
  generalize (lg_sl ([.ref (ga g 0), .int a1]) ++ List.replicate (2 - (lg_sl ([.ref (ga g 0), .int a1])).length) Slot.unset).toArray = ls at hl ⊢
  have hl : lv_has ls 2 [(0, .ref (ga g 0)), (1, .int a1)] := hl
  unfold fX6_now at hf
  refine lv_iload_n hx hb dX6_now_0 rfl (lv_at hl 1 rfl) ?_
  by_cases hc1 : a1 = (0 : Int32)
  · have hf := (if_pos hc1).symm.trans hf
    refine lv_tableIn (tgt := 36) hx hb dX6_now_1 (by rw [hc1]; decide) (by rw [hc1]; decide) (by rw [hc1]; rfl) (by decide) ?_
    refine lv_aload_n hx hb dX6_now_36 rfl (lv_at hl 0 rfl) ?_
    refine va_get (D := g.1) (ci := 4) (v := .ref (ga g (1 + 0))) (C := RX6) (T := TX6) (N := 7) hx hb hts iwX6 hown hK hP 0 q_sp rfl 0 (by decide) hw0 (fun _ h9 => h9) rfl dX6_now_37 ?_
    refine va_getN (D := g.1) (ci := 0) (v := .int p0_season) (C := RX2) (T := TX2) (N := 8) hx hb hts iwX2 hown hK hP (1 + 0) (e_pk (by decide) rfl (Q := (p0_paths, p0_water, p0_wall, p0_kind, p0_place, p0_facing, p0_age, p0_seeds, p0_season, p0_z, p0_spots))) rfl 5 (by decide) (nf_X6_149 hNW) (fun _ h9 => h9) rfl dX6_now_40 ?_
    have hres : (p0_season, w_told) = res := (Option.some.inj hf)
    have hP := w_eq (congrArg (fun z => cw g (pk3 (p0_paths, p0_water, p0_wall, p0_kind, p0_place, p0_facing, p0_age, p0_seeds, p0_season, p0_z, p0_spots) (p1_paths, p1_water, p1_wall, p1_kind, p1_place, p1_facing, p1_age, p1_seeds, p1_season, p1_z, p1_spots) (p2_paths, p2_water, p2_wall, p2_kind, p2_place, p2_facing, p2_age, p2_seeds, p2_season, p2_z, p2_spots), w_isKept, (t_bytes, t_length, t_sort, t_start, t_end, t_value), (h_numbers, h_bits, h_size), z.2)) hres) hP
    exact W.iret (v := p0_season) hx hb hr (fun t ht hW => ⟨congrArg (fun z => Outcome.returned (some (Value.int z.1))) hres, trivial, by rw [ht]; exact hP, hS.F ht⟩) hS.2.2 dX6_now_43
  · have hf := (if_neg hc1).symm.trans hf
    by_cases hc2 : a1 = (1 : Int32)
    · have hf := (if_pos hc2).symm.trans hf
      refine lv_tableIn (tgt := 44) hx hb dX6_now_1 (by rw [hc2]; decide) (by rw [hc2]; decide) (by rw [hc2]; rfl) (by decide) ?_
      refine lv_aload_n hx hb dX6_now_44 rfl (lv_at hl 0 rfl) ?_
      refine va_get (D := g.1) (ci := 4) (v := .ref (ga g (1 + 0))) (C := RX6) (T := TX6) (N := 7) hx hb hts iwX6 hown hK hP 0 q_sp rfl 0 (by decide) hw0 (fun _ h9 => h9) rfl dX6_now_45 ?_
      obtain ⟨q3, hq3, hf⟩ := bd_some hf
      refine kr_S (st1 := [.int q3]) (va_runV (As := []) (rest := []) ⟨hx, hb, hml, hown, hts⟩ (ct_X2_pathCells l n g (pk3 (p0_paths, p0_water, p0_wall, p0_kind, p0_place, p0_facing, p0_age, p0_seeds, p0_season, p0_z, p0_spots) (p1_paths, p1_water, p1_wall, p1_kind, p1_place, p1_facing, p1_age, p1_seeds, p1_season, p1_z, p1_spots) (p2_paths, p2_water, p2_wall, p2_kind, p2_place, p2_facing, p2_age, p2_seeds, p2_season, p2_z, p2_spots), w_isKept, (t_bytes, t_length, t_sort, t_start, t_end, t_value), (h_numbers, h_bits, h_size), w_told) 0 (by decide) p0_paths p0_water p0_wall p0_kind p0_place p0_facing p0_age p0_seeds p0_season p0_z p0_spots rfl q3 hq3) (cwV 0 hts gX6_now_X2_pathCells rfl rfl rfl hd_X2_pathCells ⟨Nat.le_of_ble_eq_true rfl, Nat.le_of_ble_eq_true rfl⟩) ⟨bl_C, va_recv hK hP (ci := 0) (q0 := (1 + 0)) rfl (e_pk (by decide) rfl (Q := (p0_paths, p0_water, p0_wall, p0_kind, p0_place, p0_facing, p0_age, p0_seeds, p0_season, p0_z, p0_spots))), pr_C rfl hB hP hS⟩ rfl rfl hl.1 rfl (lv_room (Nat.le_of_ble_eq_true rfl)) dX6_now_48 ⟨Nat.le_refl _, Nat.le_refl _⟩) rfl (fun hn4 => ?_)
      have hres : (q3, w_told) = res := (Option.some.inj hf)
      have hP := w_eq (congrArg (fun z => cw g (pk3 (p0_paths, p0_water, p0_wall, p0_kind, p0_place, p0_facing, p0_age, p0_seeds, p0_season, p0_z, p0_spots) (p1_paths, p1_water, p1_wall, p1_kind, p1_place, p1_facing, p1_age, p1_seeds, p1_season, p1_z, p1_spots) (p2_paths, p2_water, p2_wall, p2_kind, p2_place, p2_facing, p2_age, p2_seeds, p2_season, p2_z, p2_spots), w_isKept, (t_bytes, t_length, t_sort, t_start, t_end, t_value), (h_numbers, h_bits, h_size), z.2)) hres) hP
      exact W.iret (v := q3) hx hb hr (fun t ht hW => ⟨congrArg (fun z => Outcome.returned (some (Value.int z.1))) hres, trivial, by rw [ht]; exact hP, hS.F ht⟩) hS.2.2 dX6_now_51
    · have hf := (if_neg hc2).symm.trans hf
      by_cases hc5 : a1 = (2 : Int32)
      · have hf := (if_pos hc5).symm.trans hf
        refine lv_tableIn (tgt := 52) hx hb dX6_now_1 (by rw [hc5]; decide) (by rw [hc5]; decide) (by rw [hc5]; rfl) (by decide) ?_
        refine lv_aload_n hx hb dX6_now_52 rfl (lv_at hl 0 rfl) ?_
        refine va_get (D := g.1) (ci := 4) (v := .ref (ga g (1 + 0))) (C := RX6) (T := TX6) (N := 7) hx hb hts iwX6 hown hK hP 0 q_sp rfl 0 (by decide) hw0 (fun _ h9 => h9) rfl dX6_now_53 ?_
        obtain ⟨q6, hq6, hf⟩ := bd_some hf
        refine kr_S (st1 := [.int q6]) (va_runV (As := []) (rest := []) ⟨hx, hb, hml, hown, hts⟩ (ct_X2_aliveSet l n g (pk3 (p0_paths, p0_water, p0_wall, p0_kind, p0_place, p0_facing, p0_age, p0_seeds, p0_season, p0_z, p0_spots) (p1_paths, p1_water, p1_wall, p1_kind, p1_place, p1_facing, p1_age, p1_seeds, p1_season, p1_z, p1_spots) (p2_paths, p2_water, p2_wall, p2_kind, p2_place, p2_facing, p2_age, p2_seeds, p2_season, p2_z, p2_spots), w_isKept, (t_bytes, t_length, t_sort, t_start, t_end, t_value), (h_numbers, h_bits, h_size), w_told) 0 (by decide) p0_paths p0_water p0_wall p0_kind p0_place p0_facing p0_age p0_seeds p0_season p0_z p0_spots rfl q6 hq6) (cwV 0 hts gX6_now_X2_aliveSet rfl rfl rfl hd_X2_aliveSet ⟨Nat.le_of_ble_eq_true rfl, Nat.le_of_ble_eq_true rfl⟩) ⟨bl_C, va_recv hK hP (ci := 0) (q0 := (1 + 0)) rfl (e_pk (by decide) rfl (Q := (p0_paths, p0_water, p0_wall, p0_kind, p0_place, p0_facing, p0_age, p0_seeds, p0_season, p0_z, p0_spots))), pr_C rfl hB hP hS⟩ rfl rfl hl.1 rfl (lv_room (Nat.le_of_ble_eq_true rfl)) dX6_now_56 ⟨Nat.le_refl _, Nat.le_refl _⟩) rfl (fun hn7 => ?_)
        have hres : (q6, w_told) = res := (Option.some.inj hf)
        have hP := w_eq (congrArg (fun z => cw g (pk3 (p0_paths, p0_water, p0_wall, p0_kind, p0_place, p0_facing, p0_age, p0_seeds, p0_season, p0_z, p0_spots) (p1_paths, p1_water, p1_wall, p1_kind, p1_place, p1_facing, p1_age, p1_seeds, p1_season, p1_z, p1_spots) (p2_paths, p2_water, p2_wall, p2_kind, p2_place, p2_facing, p2_age, p2_seeds, p2_season, p2_z, p2_spots), w_isKept, (t_bytes, t_length, t_sort, t_start, t_end, t_value), (h_numbers, h_bits, h_size), z.2)) hres) hP
        exact W.iret (v := q6) hx hb hr (fun t ht hW => ⟨congrArg (fun z => Outcome.returned (some (Value.int z.1))) hres, trivial, by rw [ht]; exact hP, hS.F ht⟩) hS.2.2 dX6_now_59
      · have hf := (if_neg hc5).symm.trans hf
        by_cases hc8 : a1 = (3 : Int32)
        · have hf := (if_pos hc8).symm.trans hf
          refine lv_tableIn (tgt := 60) hx hb dX6_now_1 (by rw [hc8]; decide) (by rw [hc8]; decide) (by rw [hc8]; rfl) (by decide) ?_
          refine lv_aload_n hx hb dX6_now_60 rfl (lv_at hl 0 rfl) ?_
          refine va_get (D := g.1) (ci := 4) (v := .ref (ga g (1 + 0))) (C := RX6) (T := TX6) (N := 7) hx hb hts iwX6 hown hK hP 0 q_sp rfl 0 (by decide) hw0 (fun _ h9 => h9) rfl dX6_now_61 ?_
          obtain ⟨q9, hq9, hf⟩ := bd_some hf
          refine kr_S (st1 := [.int q9]) (va_runV (As := []) (rest := []) ⟨hx, hb, hml, hown, hts⟩ (ct_X2_pathOfAll l n g (pk3 (p0_paths, p0_water, p0_wall, p0_kind, p0_place, p0_facing, p0_age, p0_seeds, p0_season, p0_z, p0_spots) (p1_paths, p1_water, p1_wall, p1_kind, p1_place, p1_facing, p1_age, p1_seeds, p1_season, p1_z, p1_spots) (p2_paths, p2_water, p2_wall, p2_kind, p2_place, p2_facing, p2_age, p2_seeds, p2_season, p2_z, p2_spots), w_isKept, (t_bytes, t_length, t_sort, t_start, t_end, t_value), (h_numbers, h_bits, h_size), w_told) 0 (by decide) p0_paths p0_water p0_wall p0_kind p0_place p0_facing p0_age p0_seeds p0_season p0_z p0_spots rfl q9 hq9) (cwV 0 hts gX6_now_X2_pathOfAll rfl rfl rfl hd_X2_pathOfAll ⟨Nat.le_of_ble_eq_true rfl, Nat.le_of_ble_eq_true rfl⟩) ⟨bl_C, va_recv hK hP (ci := 0) (q0 := (1 + 0)) rfl (e_pk (by decide) rfl (Q := (p0_paths, p0_water, p0_wall, p0_kind, p0_place, p0_facing, p0_age, p0_seeds, p0_season, p0_z, p0_spots))), pr_C rfl hB hP hS⟩ rfl rfl hl.1 rfl (lv_room (Nat.le_of_ble_eq_true rfl)) dX6_now_64 ⟨Nat.le_refl _, Nat.le_refl _⟩) rfl (fun hn10 => ?_)
          have hres : (q9, w_told) = res := (Option.some.inj hf)
          have hP := w_eq (congrArg (fun z => cw g (pk3 (p0_paths, p0_water, p0_wall, p0_kind, p0_place, p0_facing, p0_age, p0_seeds, p0_season, p0_z, p0_spots) (p1_paths, p1_water, p1_wall, p1_kind, p1_place, p1_facing, p1_age, p1_seeds, p1_season, p1_z, p1_spots) (p2_paths, p2_water, p2_wall, p2_kind, p2_place, p2_facing, p2_age, p2_seeds, p2_season, p2_z, p2_spots), w_isKept, (t_bytes, t_length, t_sort, t_start, t_end, t_value), (h_numbers, h_bits, h_size), z.2)) hres) hP
          exact W.iret (v := q9) hx hb hr (fun t ht hW => ⟨congrArg (fun z => Outcome.returned (some (Value.int z.1))) hres, trivial, by rw [ht]; exact hP, hS.F ht⟩) hS.2.2 dX6_now_67
        · have hf := (if_neg hc8).symm.trans hf
          by_cases hc11 : a1 = (4 : Int32)
          · have hf := (if_pos hc11).symm.trans hf
            refine lv_tableIn (tgt := 68) hx hb dX6_now_1 (by rw [hc11]; decide) (by rw [hc11]; decide) (by rw [hc11]; rfl) (by decide) ?_
            refine lv_aload_n hx hb dX6_now_68 rfl (lv_at hl 0 rfl) ?_
            refine va_get (D := g.1) (ci := 4) (v := .ref (ga g (1 + 0))) (C := RX6) (T := TX6) (N := 7) hx hb hts iwX6 hown hK hP 0 q_sp rfl 0 (by decide) hw0 (fun _ h9 => h9) rfl dX6_now_69 ?_
            obtain ⟨q12, hq12, hf⟩ := bd_some hf
            refine kr_S (st1 := [.long q12]) (va_runV (As := []) (rest := []) ⟨hx, hb, hml, hown, hts⟩ (ct_X2_pathSet l n g (pk3 (p0_paths, p0_water, p0_wall, p0_kind, p0_place, p0_facing, p0_age, p0_seeds, p0_season, p0_z, p0_spots) (p1_paths, p1_water, p1_wall, p1_kind, p1_place, p1_facing, p1_age, p1_seeds, p1_season, p1_z, p1_spots) (p2_paths, p2_water, p2_wall, p2_kind, p2_place, p2_facing, p2_age, p2_seeds, p2_season, p2_z, p2_spots), w_isKept, (t_bytes, t_length, t_sort, t_start, t_end, t_value), (h_numbers, h_bits, h_size), w_told) 0 (by decide) p0_paths p0_water p0_wall p0_kind p0_place p0_facing p0_age p0_seeds p0_season p0_z p0_spots rfl q12 hq12) (cwV 0 hts gX6_now_X2_pathSet rfl rfl rfl hd_X2_pathSet ⟨Nat.le_of_ble_eq_true rfl, Nat.le_of_ble_eq_true rfl⟩) ⟨bl_C, va_recv hK hP (ci := 0) (q0 := (1 + 0)) rfl (e_pk (by decide) rfl (Q := (p0_paths, p0_water, p0_wall, p0_kind, p0_place, p0_facing, p0_age, p0_seeds, p0_season, p0_z, p0_spots))), pr_C rfl hB hP hS⟩ rfl rfl hl.1 rfl (lv_room (Nat.le_of_ble_eq_true rfl)) dX6_now_72 ⟨Nat.le_refl _, Nat.le_refl _⟩) rfl (fun hn13 => ?_)
            obtain ⟨q14, hq14, hf⟩ := bd_some hf
            refine kr_S (st1 := [.long q14]) (va_runS (As := [.long q12]) (rest := []) ⟨hx, hb, hml, hown, hts⟩ (ct_X0_benches l n q12 q14 hq14) (va_cwS 1 hts gX6_now_X0_benches rfl rfl rfl hn_X0_benches ⟨Nat.le_of_ble_eq_true rfl, Nat.le_of_ble_eq_true rfl⟩) ⟨bl_N, pr_N rfl hNW⟩ rfl rfl hl.1 rfl (lv_room (Nat.le_of_ble_eq_true rfl)) dX6_now_75 ⟨Nat.le_refl _, Nat.le_refl _⟩) rfl (fun hn15 => ?_)
            obtain ⟨q16, hq16, hf⟩ := bd_some hf
            refine kr_S (st1 := [.int q16]) (va_runS (As := [.long q14]) (rest := []) ⟨hx, hb, hml, hown, hts⟩ (ct_J13_bitCount_95d88 l n q14 q16 hq16) (va_cwS 1 hts gX6_now_J13_bitCount_95d88 rfl rfl rfl hn_J13_bitCount_95d88 ⟨Nat.le_of_ble_eq_true rfl, Nat.le_of_ble_eq_true rfl⟩) ⟨bl_N, pr_N rfl hNW⟩ rfl rfl hl.1 rfl (lv_room (Nat.le_of_ble_eq_true rfl)) dX6_now_78 ⟨Nat.le_refl _, Nat.le_refl _⟩) rfl (fun hn17 => ?_)
            have hres : (q16, w_told) = res := (Option.some.inj hf)
            have hP := w_eq (congrArg (fun z => cw g (pk3 (p0_paths, p0_water, p0_wall, p0_kind, p0_place, p0_facing, p0_age, p0_seeds, p0_season, p0_z, p0_spots) (p1_paths, p1_water, p1_wall, p1_kind, p1_place, p1_facing, p1_age, p1_seeds, p1_season, p1_z, p1_spots) (p2_paths, p2_water, p2_wall, p2_kind, p2_place, p2_facing, p2_age, p2_seeds, p2_season, p2_z, p2_spots), w_isKept, (t_bytes, t_length, t_sort, t_start, t_end, t_value), (h_numbers, h_bits, h_size), z.2)) hres) hP
            exact W.iret (v := q16) hx hb hr (fun t ht hW => ⟨congrArg (fun z => Outcome.returned (some (Value.int z.1))) hres, trivial, by rw [ht]; exact hP, hS.F ht⟩) hS.2.2 dX6_now_81
          · have hf := (if_neg hc11).symm.trans hf
            refine lv_tableOut (tgt := 82) hx hb dX6_now_1 (by have := lv_neT (a := 0) hc1 rfl; have := lv_neT (a := 1) hc2 rfl; have := lv_neT (a := 2) hc5 rfl; have := lv_neT (a := 3) hc8 rfl; have := lv_neT (a := 4) hc11 rfl; omega) (by decide) ?_
            refine lv_aload_n hx hb dX6_now_82 rfl (lv_at hl 0 rfl) ?_
            refine lv_iconst (v := (0 : Int32)) hx hb dX6_now_83 (by decide) ?_
            obtain ⟨q18, hq18, hf⟩ := bd_some hf
            refine kr_W (st1 := [.int q18.1]) (va_runV (As := [.int (0 : Int32)]) (rest := []) ⟨hx, hb, hml, hown, hts⟩ (ct_X6_finding l n g p0_paths p0_water p0_wall p0_kind p0_place p0_facing p0_age p0_seeds p0_season p0_z p0_spots p1_paths p1_water p1_wall p1_kind p1_place p1_facing p1_age p1_seeds p1_season p1_z p1_spots p2_paths p2_water p2_wall p2_kind p2_place p2_facing p2_age p2_seeds p2_season p2_z p2_spots t_bytes t_length t_sort t_start t_end t_value h_numbers h_bits h_size w_isKept w_told (0 : Int32) q18 hq18) (cwV 1 hts gX6_now_X6_finding rfl rfl rfl hd_X6_finding ⟨Nat.le_of_ble_eq_true rfl, Nat.le_of_ble_eq_true rfl⟩) ⟨bl_C, va_recv hK hP (ci := 4) (q0 := 0) rfl q_sp, pr_C rfl hB hP hS⟩ rfl rfl hl.1 rfl (lv_room (Nat.le_of_ble_eq_true rfl)) dX6_now_84 ⟨Nat.le_refl _, Nat.le_refl _⟩) hS rfl (fun hn19 H locs hP hS => ?_)
            have hP : va_P g.1 vwCl (cw g (pk3 (p0_paths, p0_water, p0_wall, p0_kind, p0_place, p0_facing, p0_age, p0_seeds, p0_season, p0_z, p0_spots) (p1_paths, p1_water, p1_wall, p1_kind, p1_place, p1_facing, p1_age, p1_seeds, p1_season, p1_z, p1_spots) (p2_paths, p2_water, p2_wall, p2_kind, p2_place, p2_facing, p2_age, p2_seeds, p2_season, p2_z, p2_spots), w_isKept, (t_bytes, t_length, t_sort, t_start, t_end, t_value), (h_numbers, h_bits, h_size), q18.2)) H := hP
            have hres : (q18.1, q18.2) = res := (Option.some.inj hf)
            have hP := w_eq (congrArg (fun z => cw g (pk3 (p0_paths, p0_water, p0_wall, p0_kind, p0_place, p0_facing, p0_age, p0_seeds, p0_season, p0_z, p0_spots) (p1_paths, p1_water, p1_wall, p1_kind, p1_place, p1_facing, p1_age, p1_seeds, p1_season, p1_z, p1_spots) (p2_paths, p2_water, p2_wall, p2_kind, p2_place, p2_facing, p2_age, p2_seeds, p2_season, p2_z, p2_spots), w_isKept, (t_bytes, t_length, t_sort, t_start, t_end, t_value), (h_numbers, h_bits, h_size), z.2)) hres) hP
            exact W.iret (v := q18.1) hx hb hr (fun t ht hW => ⟨congrArg (fun z => Outcome.returned (some (Value.int z.1))) hres, trivial, by rw [ht]; exact hP, hS.F ht⟩) hS.2.2 dX6_now_87
set_option maxHeartbeats 4000000 in
set_option maxRecDepth 100000 in
theorem ct_X6_where (l : Launch) (n : Nat) (g : GC) (p0_paths : Nat → Int32) (p0_water : Int64) (p0_wall : Int64) (p0_kind : Nat → Int32) (p0_place : Nat → Int32) (p0_facing : Nat → Int32) (p0_age : Nat → Int32) (p0_seeds : Int32) (p0_season : Int32) (p0_z : Int32) (p0_spots : Nat → Int32) (p1_paths : Nat → Int32) (p1_water : Int64) (p1_wall : Int64) (p1_kind : Nat → Int32) (p1_place : Nat → Int32) (p1_facing : Nat → Int32) (p1_age : Nat → Int32) (p1_seeds : Int32) (p1_season : Int32) (p1_z : Int32) (p1_spots : Nat → Int32) (p2_paths : Nat → Int32) (p2_water : Int64) (p2_wall : Int64) (p2_kind : Nat → Int32) (p2_place : Nat → Int32) (p2_facing : Nat → Int32) (p2_age : Nat → Int32) (p2_seeds : Int32) (p2_season : Int32) (p2_z : Int32) (p2_spots : Nat → Int32) (t_bytes : Nat → Int32) (t_length : Int32) (t_sort : Int32) (t_start : Int32) (t_end : Int32) (t_value : Int32) (h_numbers : Nat → Nat → Int32) (h_bits : Nat → Int32) (h_size : Nat → Int32) (w_isKept : Int32) (w_told : Nat → Int32) (a1 : Int32) (res : Int64 × (Nat → Int32)) (hf : fX6_where n a1 p0_paths p0_water p0_wall w_told = some res) : Met l yX6_where wsX6_where ({ frames := 2, cells := 0, slots := 0, locals := 49 }) (va_Pc [.ref (ga g 0), .int a1] (cI g (pk3 (p0_paths, p0_water, p0_wall, p0_kind, p0_place, p0_facing, p0_age, p0_seeds, p0_season, p0_z, p0_spots) (p1_paths, p1_water, p1_wall, p1_kind, p1_place, p1_facing, p1_age, p1_seeds, p1_season, p1_z, p1_spots) (p2_paths, p2_water, p2_wall, p2_kind, p2_place, p2_facing, p2_age, p2_seeds, p2_season, p2_z, p2_spots), w_isKept, (t_bytes, t_length, t_sort, t_start, t_end, t_value), (h_numbers, h_bits, h_size), w_told))) (qW (some (.long res.1)) True g.1 (cw g (pk3 (p0_paths, p0_water, p0_wall, p0_kind, p0_place, p0_facing, p0_age, p0_seeds, p0_season, p0_z, p0_spots) (p1_paths, p1_water, p1_wall, p1_kind, p1_place, p1_facing, p1_age, p1_seeds, p1_season, p1_z, p1_spots) (p2_paths, p2_water, p2_wall, p2_kind, p2_place, p2_facing, p2_age, p2_seeds, p2_season, p2_z, p2_spots), w_isKept, (t_bytes, t_length, t_sort, t_start, t_end, t_value), (h_numbers, h_bits, h_size), res.2)) (gA g)) 0 0 (gA g) := by
  refine Met.ofW (cc := cX6_where) (maxL := 2) (ret := (some .long)) (by decide) rfl ?_
  intro p e s m args below meth c s₁ B hml hv
  obtain ⟨rfl, hI⟩ := hv
  have hx := B.exec
  have hb := B.bytes
  have hr := B.returns
  have hts := atoms_spec (ws := wsX6_where) B.pre
  have hown : s.vm.findClass RX6 = some m.cls := findClass_of_methodNamed B.named
  have hlocks := B.notSynchronized
  have hP := hI.1
  have hB := hI.2
  have hK := hB.1
  have hNW := hB.2.1
  have hS : va_S (gA g) s.heap s.heap [] := va_S.rf
  have hw0 := hts (.fieldLink RX6 10 "SownPaths" "park" "LSownPaths$Park;") (by decide +kernel)
  have iwX2 : ∀ w ∈ wsX20, w ∈ wsX6_where := fun w h => List.mem_cons_of_mem _ (List.mem_append_right _ h)
  have iwX6 : ∀ w ∈ wsX60, w ∈ wsX6_where := fun w h => List.mem_cons_of_mem _ (List.mem_append_left _ (List.mem_append_right _ h))
  have hl := lv_entry ([.ref (ga g 0), .int a1]) (n := 2) (Nat.le_of_ble_eq_true rfl)
  rw [lg_entry_eq]
  generalize (lg_sl ([.ref (ga g 0), .int a1]) ++ List.replicate (2 - (lg_sl ([.ref (ga g 0), .int a1])).length) Slot.unset).toArray = ls at hl ⊢
  have hl : lv_has ls 2 [(0, .ref (ga g 0)), (1, .int a1)] := hl
  unfold fX6_where at hf
  refine lv_iload_n hx hb dX6_where_0 rfl (lv_at hl 1 rfl) ?_
  by_cases hc1 : a1 = (0 : Int32)
  · have hf := (if_pos hc1).symm.trans hf
    refine lv_tableIn (tgt := 32) hx hb dX6_where_1 (by rw [hc1]; decide) (by rw [hc1]; decide) (by rw [hc1]; rfl) (by decide) ?_
    refine lv_aload_n hx hb dX6_where_32 rfl (lv_at hl 0 rfl) ?_
    refine va_get (D := g.1) (ci := 4) (v := .ref (ga g (1 + 0))) (C := RX6) (T := TX6) (N := 7) hx hb hts iwX6 hown hK hP 0 q_sp rfl 0 (by decide) hw0 (fun _ h9 => h9) rfl dX6_where_33 ?_
    obtain ⟨q2, hq2, hf⟩ := bd_some hf
    refine kr_S (st1 := [.long q2]) (va_runV (As := []) (rest := []) ⟨hx, hb, hml, hown, hts⟩ (ct_X2_pathSet l n g (pk3 (p0_paths, p0_water, p0_wall, p0_kind, p0_place, p0_facing, p0_age, p0_seeds, p0_season, p0_z, p0_spots) (p1_paths, p1_water, p1_wall, p1_kind, p1_place, p1_facing, p1_age, p1_seeds, p1_season, p1_z, p1_spots) (p2_paths, p2_water, p2_wall, p2_kind, p2_place, p2_facing, p2_age, p2_seeds, p2_season, p2_z, p2_spots), w_isKept, (t_bytes, t_length, t_sort, t_start, t_end, t_value), (h_numbers, h_bits, h_size), w_told) 0 (by decide) p0_paths p0_water p0_wall p0_kind p0_place p0_facing p0_age p0_seeds p0_season p0_z p0_spots rfl q2 hq2) (cwV 0 hts gX6_where_X2_pathSet rfl rfl rfl hd_X2_pathSet ⟨Nat.le_of_ble_eq_true rfl, Nat.le_of_ble_eq_true rfl⟩) ⟨bl_C, va_recv hK hP (ci := 0) (q0 := (1 + 0)) rfl (e_pk (by decide) rfl (Q := (p0_paths, p0_water, p0_wall, p0_kind, p0_place, p0_facing, p0_age, p0_seeds, p0_season, p0_z, p0_spots))), pr_C rfl hB hP hS⟩ rfl rfl hl.1 rfl (lv_room (Nat.le_of_ble_eq_true rfl)) dX6_where_36 ⟨Nat.le_refl _, Nat.le_refl _⟩) rfl (fun hn3 => ?_)
    have hres : (q2, w_told) = res := (Option.some.inj hf)
    have hP := w_eq (congrArg (fun z => cw g (pk3 (p0_paths, p0_water, p0_wall, p0_kind, p0_place, p0_facing, p0_age, p0_seeds, p0_season, p0_z, p0_spots) (p1_paths, p1_water, p1_wall, p1_kind, p1_place, p1_facing, p1_age, p1_seeds, p1_season, p1_z, p1_spots) (p2_paths, p2_water, p2_wall, p2_kind, p2_place, p2_facing, p2_age, p2_seeds, p2_season, p2_z, p2_spots), w_isKept, (t_bytes, t_length, t_sort, t_start, t_end, t_value), (h_numbers, h_bits, h_size), z.2)) hres) hP
    exact W.lret (v := q2) hx hb hr (fun t ht hW => ⟨congrArg (fun z => Outcome.returned (some (Value.long z.1))) hres, trivial, by rw [ht]; exact hP, hS.F ht⟩) hS.2.2 dX6_where_39
  · have hf := (if_neg hc1).symm.trans hf
    by_cases hc4 : a1 = (1 : Int32)
    · have hf := (if_pos hc4).symm.trans hf
      refine lv_tableIn (tgt := 40) hx hb dX6_where_1 (by rw [hc4]; decide) (by rw [hc4]; decide) (by rw [hc4]; rfl) (by decide) ?_
      refine lv_aload_n hx hb dX6_where_40 rfl (lv_at hl 0 rfl) ?_
      refine va_get (D := g.1) (ci := 4) (v := .ref (ga g (1 + 0))) (C := RX6) (T := TX6) (N := 7) hx hb hts iwX6 hown hK hP 0 q_sp rfl 0 (by decide) hw0 (fun _ h9 => h9) rfl dX6_where_41 ?_
      refine va_getN (D := g.1) (ci := 0) (v := .long p0_water) (C := RX2) (T := TX2) (N := 8) hx hb hts iwX2 hown hK hP (1 + 0) (e_pk (by decide) rfl (Q := (p0_paths, p0_water, p0_wall, p0_kind, p0_place, p0_facing, p0_age, p0_seeds, p0_season, p0_z, p0_spots))) rfl 1 (by decide) (nf_X6_169 hNW) (fun _ h9 => h9) rfl dX6_where_44 ?_
      have hres : (p0_water, w_told) = res := (Option.some.inj hf)
      have hP := w_eq (congrArg (fun z => cw g (pk3 (p0_paths, p0_water, p0_wall, p0_kind, p0_place, p0_facing, p0_age, p0_seeds, p0_season, p0_z, p0_spots) (p1_paths, p1_water, p1_wall, p1_kind, p1_place, p1_facing, p1_age, p1_seeds, p1_season, p1_z, p1_spots) (p2_paths, p2_water, p2_wall, p2_kind, p2_place, p2_facing, p2_age, p2_seeds, p2_season, p2_z, p2_spots), w_isKept, (t_bytes, t_length, t_sort, t_start, t_end, t_value), (h_numbers, h_bits, h_size), z.2)) hres) hP
      exact W.lret (v := p0_water) hx hb hr (fun t ht hW => ⟨congrArg (fun z => Outcome.returned (some (Value.long z.1))) hres, trivial, by rw [ht]; exact hP, hS.F ht⟩) hS.2.2 dX6_where_47
    · have hf := (if_neg hc4).symm.trans hf
      by_cases hc5 : a1 = (2 : Int32)
      · have hf := (if_pos hc5).symm.trans hf
        refine lv_tableIn (tgt := 48) hx hb dX6_where_1 (by rw [hc5]; decide) (by rw [hc5]; decide) (by rw [hc5]; rfl) (by decide) ?_
        refine lv_aload_n hx hb dX6_where_48 rfl (lv_at hl 0 rfl) ?_
        refine va_get (D := g.1) (ci := 4) (v := .ref (ga g (1 + 0))) (C := RX6) (T := TX6) (N := 7) hx hb hts iwX6 hown hK hP 0 q_sp rfl 0 (by decide) hw0 (fun _ h9 => h9) rfl dX6_where_49 ?_
        refine va_getN (D := g.1) (ci := 0) (v := .long p0_wall) (C := RX2) (T := TX2) (N := 8) hx hb hts iwX2 hown hK hP (1 + 0) (e_pk (by decide) rfl (Q := (p0_paths, p0_water, p0_wall, p0_kind, p0_place, p0_facing, p0_age, p0_seeds, p0_season, p0_z, p0_spots))) rfl 2 (by decide) (nf_X6_173 hNW) (fun _ h9 => h9) rfl dX6_where_52 ?_
        have hres : (p0_wall, w_told) = res := (Option.some.inj hf)
        have hP := w_eq (congrArg (fun z => cw g (pk3 (p0_paths, p0_water, p0_wall, p0_kind, p0_place, p0_facing, p0_age, p0_seeds, p0_season, p0_z, p0_spots) (p1_paths, p1_water, p1_wall, p1_kind, p1_place, p1_facing, p1_age, p1_seeds, p1_season, p1_z, p1_spots) (p2_paths, p2_water, p2_wall, p2_kind, p2_place, p2_facing, p2_age, p2_seeds, p2_season, p2_z, p2_spots), w_isKept, (t_bytes, t_length, t_sort, t_start, t_end, t_value), (h_numbers, h_bits, h_size), z.2)) hres) hP
        exact W.lret (v := p0_wall) hx hb hr (fun t ht hW => ⟨congrArg (fun z => Outcome.returned (some (Value.long z.1))) hres, trivial, by rw [ht]; exact hP, hS.F ht⟩) hS.2.2 dX6_where_55
      · have hf := (if_neg hc5).symm.trans hf
        by_cases hc6 : a1 = (3 : Int32)
        · have hf := (if_pos hc6).symm.trans hf
          refine lv_tableIn (tgt := 56) hx hb dX6_where_1 (by rw [hc6]; decide) (by rw [hc6]; decide) (by rw [hc6]; rfl) (by decide) ?_
          refine lv_aload_n hx hb dX6_where_56 rfl (lv_at hl 0 rfl) ?_
          refine va_get (D := g.1) (ci := 4) (v := .ref (ga g (1 + 0))) (C := RX6) (T := TX6) (N := 7) hx hb hts iwX6 hown hK hP 0 q_sp rfl 0 (by decide) hw0 (fun _ h9 => h9) rfl dX6_where_57 ?_
          obtain ⟨q7, hq7, hf⟩ := bd_some hf
          refine kr_S (st1 := [.long q7]) (va_runV (As := []) (rest := []) ⟨hx, hb, hml, hown, hts⟩ (ct_X2_pathSet l n g (pk3 (p0_paths, p0_water, p0_wall, p0_kind, p0_place, p0_facing, p0_age, p0_seeds, p0_season, p0_z, p0_spots) (p1_paths, p1_water, p1_wall, p1_kind, p1_place, p1_facing, p1_age, p1_seeds, p1_season, p1_z, p1_spots) (p2_paths, p2_water, p2_wall, p2_kind, p2_place, p2_facing, p2_age, p2_seeds, p2_season, p2_z, p2_spots), w_isKept, (t_bytes, t_length, t_sort, t_start, t_end, t_value), (h_numbers, h_bits, h_size), w_told) 0 (by decide) p0_paths p0_water p0_wall p0_kind p0_place p0_facing p0_age p0_seeds p0_season p0_z p0_spots rfl q7 hq7) (cwV 0 hts gX6_where_X2_pathSet rfl rfl rfl hd_X2_pathSet ⟨Nat.le_of_ble_eq_true rfl, Nat.le_of_ble_eq_true rfl⟩) ⟨bl_C, va_recv hK hP (ci := 0) (q0 := (1 + 0)) rfl (e_pk (by decide) rfl (Q := (p0_paths, p0_water, p0_wall, p0_kind, p0_place, p0_facing, p0_age, p0_seeds, p0_season, p0_z, p0_spots))), pr_C rfl hB hP hS⟩ rfl rfl hl.1 rfl (lv_room (Nat.le_of_ble_eq_true rfl)) dX6_where_60 ⟨Nat.le_refl _, Nat.le_refl _⟩) rfl (fun hn8 => ?_)
          obtain ⟨q9, hq9, hf⟩ := bd_some hf
          refine kr_S (st1 := [.long q9]) (va_runS (As := [.long q7]) (rest := []) ⟨hx, hb, hml, hown, hts⟩ (ct_X0_benches l n q7 q9 hq9) (va_cwS 1 hts gX6_where_X0_benches rfl rfl rfl hn_X0_benches ⟨Nat.le_of_ble_eq_true rfl, Nat.le_of_ble_eq_true rfl⟩) ⟨bl_N, pr_N rfl hNW⟩ rfl rfl hl.1 rfl (lv_room (Nat.le_of_ble_eq_true rfl)) dX6_where_63 ⟨Nat.le_refl _, Nat.le_refl _⟩) rfl (fun hn10 => ?_)
          have hres : (q9, w_told) = res := (Option.some.inj hf)
          have hP := w_eq (congrArg (fun z => cw g (pk3 (p0_paths, p0_water, p0_wall, p0_kind, p0_place, p0_facing, p0_age, p0_seeds, p0_season, p0_z, p0_spots) (p1_paths, p1_water, p1_wall, p1_kind, p1_place, p1_facing, p1_age, p1_seeds, p1_season, p1_z, p1_spots) (p2_paths, p2_water, p2_wall, p2_kind, p2_place, p2_facing, p2_age, p2_seeds, p2_season, p2_z, p2_spots), w_isKept, (t_bytes, t_length, t_sort, t_start, t_end, t_value), (h_numbers, h_bits, h_size), z.2)) hres) hP
          exact W.lret (v := q9) hx hb hr (fun t ht hW => ⟨congrArg (fun z => Outcome.returned (some (Value.long z.1))) hres, trivial, by rw [ht]; exact hP, hS.F ht⟩) hS.2.2 dX6_where_66
        · have hf := (if_neg hc6).symm.trans hf
          refine lv_tableOut (tgt := 67) hx hb dX6_where_1 (by have := lv_neT (a := 0) hc1 rfl; have := lv_neT (a := 1) hc4 rfl; have := lv_neT (a := 2) hc5 rfl; have := lv_neT (a := 3) hc6 rfl; omega) (by decide) ?_
          refine lv_aload_n hx hb dX6_where_67 rfl (lv_at hl 0 rfl) ?_
          refine lv_iconst (v := (0 : Int32)) hx hb dX6_where_68 (by decide) ?_
          obtain ⟨q11, hq11, hf⟩ := bd_some hf
          refine kr_W (st1 := [.int q11.1]) (va_runV (As := [.int (0 : Int32)]) (rest := []) ⟨hx, hb, hml, hown, hts⟩ (ct_X6_finding l n g p0_paths p0_water p0_wall p0_kind p0_place p0_facing p0_age p0_seeds p0_season p0_z p0_spots p1_paths p1_water p1_wall p1_kind p1_place p1_facing p1_age p1_seeds p1_season p1_z p1_spots p2_paths p2_water p2_wall p2_kind p2_place p2_facing p2_age p2_seeds p2_season p2_z p2_spots t_bytes t_length t_sort t_start t_end t_value h_numbers h_bits h_size w_isKept w_told (0 : Int32) q11 hq11) (cwV 1 hts gX6_where_X6_finding rfl rfl rfl hd_X6_finding ⟨Nat.le_of_ble_eq_true rfl, Nat.le_of_ble_eq_true rfl⟩) ⟨bl_C, va_recv hK hP (ci := 4) (q0 := 0) rfl q_sp, pr_C rfl hB hP hS⟩ rfl rfl hl.1 rfl (lv_room (Nat.le_of_ble_eq_true rfl)) dX6_where_69 ⟨Nat.le_refl _, Nat.le_refl _⟩) hS rfl (fun hn12 H locs hP hS => ?_)
          have hP : va_P g.1 vwCl (cw g (pk3 (p0_paths, p0_water, p0_wall, p0_kind, p0_place, p0_facing, p0_age, p0_seeds, p0_season, p0_z, p0_spots) (p1_paths, p1_water, p1_wall, p1_kind, p1_place, p1_facing, p1_age, p1_seeds, p1_season, p1_z, p1_spots) (p2_paths, p2_water, p2_wall, p2_kind, p2_place, p2_facing, p2_age, p2_seeds, p2_season, p2_z, p2_spots), w_isKept, (t_bytes, t_length, t_sort, t_start, t_end, t_value), (h_numbers, h_bits, h_size), q11.2)) H := hP
          refine lv_i2l (v := q11.1.toInt64) hx hb dX6_where_72 rfl ?_
          have hres : (q11.1.toInt64, q11.2) = res := (Option.some.inj hf)
          have hP := w_eq (congrArg (fun z => cw g (pk3 (p0_paths, p0_water, p0_wall, p0_kind, p0_place, p0_facing, p0_age, p0_seeds, p0_season, p0_z, p0_spots) (p1_paths, p1_water, p1_wall, p1_kind, p1_place, p1_facing, p1_age, p1_seeds, p1_season, p1_z, p1_spots) (p2_paths, p2_water, p2_wall, p2_kind, p2_place, p2_facing, p2_age, p2_seeds, p2_season, p2_z, p2_spots), w_isKept, (t_bytes, t_length, t_sort, t_start, t_end, t_value), (h_numbers, h_bits, h_size), z.2)) hres) hP
          exact W.lret (v := q11.1.toInt64) hx hb hr (fun t ht hW => ⟨congrArg (fun z => Outcome.returned (some (Value.long z.1))) hres, trivial, by rw [ht]; exact hP, hS.F ht⟩) hS.2.2 dX6_where_73
set_option maxHeartbeats 4000000 in
set_option maxRecDepth 100000 in
theorem ct_X0_steps (l : Launch) (n : Nat) (a0 : Int32) (a1 : Int32) (a2 : Int64) (res : Int32) (hf : fX0_steps n a0 a1 a2 = some res) : Met l yX0_steps wsX0_steps ({ frames := 1, cells := 0, slots := 0, locals := 23 }) (va_Pc [.int a0, .int a1, .long a2] NW) (qS (some (.int res)) True) 0 0 (fun _ => False) := by
  refine Met.ofW (cc := cX0_steps) (maxL := 7) (ret := (some .int)) (by decide) rfl ?_
  intro p e s m args below meth c s₁ B hml hv
  obtain ⟨rfl, hI⟩ := hv
  have hx := B.exec
  have hb := B.bytes
  have hr := B.returns
  have hts := atoms_spec (ws := wsX0_steps) B.pre
  have hown : s.vm.findClass RX0 = some m.cls := findClass_of_methodNamed B.named
  have hlocks := B.notSynchronized
  have hNW : NW s := hI
  have hw0 := hts (.initialized RX6) (by decide +kernel)
  have hw1 := hts (.static yX6_bit) (by decide +kernel)
  have hl := lv_entry ([.int a0, .int a1, .long a2]) (n := 7) (Nat.le_of_ble_eq_true rfl)
  rw [lg_entry_eq]
  generalize (lg_sl ([.int a0, .int a1, .long a2]) ++ List.replicate (7 - (lg_sl ([.int a0, .int a1, .long a2])).length) Slot.unset).toArray = ls at hl ⊢
  have hl : lv_has ls 7 [(0, .int a0), (1, .int a1), (2, .long a2)] := hl
  unfold fX0_steps at hf
  refine lv_iload_n hx hb dX0_steps_0 rfl (lv_at hl 0 rfl) ?_
  obtain ⟨q1, hq1, hf⟩ := bd_some hf
  refine kr_S (st1 := [.long q1]) (va_runSN (As := [.int a0]) (rest := []) ⟨hx, hb, hml, hown, hts⟩ (ct_X6_bit l n a0 q1 hq1) (⟨va_cnB 1 hts gX0_steps_X6_bit_n17 rfl rfl rfl (ml_X0_17 hNW) hw0 hn_X6_bit ⟨Nat.le_of_ble_eq_true rfl, Nat.le_of_ble_eq_true rfl⟩, hw1, trivial⟩) ⟨bl_N, pr_N rfl hNW⟩ rfl rfl hl.1 rfl (lv_room (Nat.le_of_ble_eq_true rfl)) dX0_steps_1 ⟨Nat.le_refl _, Nat.le_refl _⟩) rfl (fun hn2 => ?_)
  refine lv_lload_n hx hb dX0_steps_4 rfl (lv_at hl 2 rfl) ?_
  refine lv_land hx hb dX0_steps_5 ?_
  refine lv_lstore (lv' := [(4, .long (q1 &&& a2)), (0, .int a0), (1, .int a1), (2, .long a2)]) hx hb dX0_steps_6 hl (by decide) rfl (fun ls hl => ?_)
  refine lv_iconst (v := (0 : Int32)) hx hb dX0_steps_8 (by decide) ?_
  refine lv_istore (lv' := [(6, .int (0 : Int32)), (4, .long (q1 &&& a2)), (0, .int a0), (1, .int a1), (2, .long a2)]) hx hb dX0_steps_9 hl (by decide) rfl (fun ls hl => ?_)
  refine lp_run hf (fun s3 => ∀ (ls : Array Slot), lv_has ls 7 [(1, .int a1), (2, .long a2), (4, .long s3.1), (6, .int s3.2)] → W p l e (headSpec wsX0_steps ({ frames := 1, cells := 0, slots := 0, locals := 23 })).room s m ([.int a0, .int a1, .long a2] : List Value).toArray below meth c s.heap [] 0 0 (MQ below (qS (some (.int res)) True) ([.int a0, .int a1, .long a2] : List Value).toArray s 0 0 (fun _ => False)) (F0 m 11 ls [])) (fun v => Sum.elim (fun v4 => ∀ (ls : Array Slot), lv_has ls 7 [] → W p l e (headSpec wsX0_steps ({ frames := 1, cells := 0, slots := 0, locals := 23 })).room s m ([.int a0, .int a1, .long a2] : List Value).toArray below meth c s.heap [] 0 0 (MQ below (qS (some (.int res)) True) ([.int a0, .int a1, .long a2] : List Value).toArray s 0 0 (fun _ => False)) (F0 m 51 ls [])) (fun x => x = res) v) ?_ ?_ _ (lv_sub hl [3, 4, 1, 0] rfl)
  · intro v4 hf
    rcases v4 with v4 | v4
    · have hf := el_l hf
      intro ls hl
      refine lv_iconst (v := (-1 : Int32)) hx hb dX0_steps_51 (by decide) ?_
      have hres : (-1 : Int32) = res := (Option.some.inj hf)
      exact W.iret (v := (-1 : Int32)) hx hb hr (fun t ht hW => ⟨congrArg (fun z => Outcome.returned (some (Value.int z))) hres, trivial, ht⟩) t_nil dX0_steps_52
    · exact Option.some.inj hf
  · intro s3 r1 hf hback1 hexit1 ls hl
    refine lv_iload hx hb dX0_steps_11 (lv_at hl 3 rfl) ?_
    refine lv_bipush (v := (36 : Int32)) hx hb dX0_steps_13 (by decide) ?_
    refine lv_icmp_ge (tgt := 51) hx hb dX0_steps_15 (by decide) (fun hc5 => ?_) (fun hc5 => ?_)
    · have hf := (if_pos hc5).symm.trans hf
      exact hexit1 (.inl (s3.1, s3.2)) (Option.some.inj hf).symm ls (lv_sub hl [] rfl)
    · have hf := (if_neg hc5).symm.trans hf
      refine lv_lload hx hb dX0_steps_18 (lv_at hl 2 rfl) ?_
      refine lv_iload_n hx hb dX0_steps_20 rfl (lv_at hl 0 rfl) ?_
      obtain ⟨q6, hq6, hf⟩ := bd_some hf
      refine kr_S (st1 := [.long q6, .long s3.1]) (va_runSN (As := [.int a1]) (rest := [.long s3.1]) ⟨hx, hb, hml, hown, hts⟩ (ct_X6_bit l n a1 q6 hq6) (⟨va_cnB 1 hts gX0_steps_X6_bit_n17 rfl rfl rfl (ml_X0_17 hNW) hw0 hn_X6_bit ⟨Nat.le_of_ble_eq_true rfl, Nat.le_of_ble_eq_true rfl⟩, hw1, trivial⟩) ⟨bl_N, pr_N rfl hNW⟩ rfl rfl hl.1 rfl (lv_room (Nat.le_of_ble_eq_true rfl)) dX0_steps_21 ⟨Nat.le_refl _, Nat.le_refl _⟩) rfl (fun hn7 => ?_)
      refine lv_land hx hb dX0_steps_24 ?_
      refine lv_lconst (v := (0 : Int64)) hx hb dX0_steps_25 (by decide) ?_
      refine W.lcmp hx hb dX0_steps_26 ?_
      refine lv_if_eq (tgt := 33) hx hb dX0_steps_27 (by decide) (fun hc8 => ?_) (fun hc8 => ?_)
      · have hc8 := (lg_cmp_eq (s3.1 &&& q6) (0 : Int64)).mp hc8
        have hf := (if_pos hc8).symm.trans hf
        refine lv_lload hx hb dX0_steps_33 (lv_at hl 2 rfl) ?_
        refine lv_lload hx hb dX0_steps_35 (lv_at hl 2 rfl) ?_
        obtain ⟨q9, hq9, hf⟩ := bd_some hf
        refine kr_S (st1 := [.long q9, .long s3.1]) (va_runS (As := [.long s3.1]) (rest := [.long s3.1]) ⟨hx, hb, hml, hown, hts⟩ (ct_X0_neighbours l n s3.1 q9 hq9) (va_cwS 1 hts gX0_steps_X0_neighbours rfl rfl rfl hn_X0_neighbours ⟨Nat.le_of_ble_eq_true rfl, Nat.le_of_ble_eq_true rfl⟩) ⟨bl_N, pr_N rfl hNW⟩ rfl rfl hl.1 rfl (lv_room (Nat.le_of_ble_eq_true rfl)) dX0_steps_37 ⟨Nat.le_refl _, Nat.le_refl _⟩) rfl (fun hn10 => ?_)
        refine lv_lload_n hx hb dX0_steps_40 rfl (lv_at hl 1 rfl) ?_
        refine lv_land hx hb dX0_steps_41 ?_
        refine lv_lor hx hb dX0_steps_42 ?_
        refine lv_lstore (lv' := [(4, .long (s3.1 ||| (q9 &&& a2))), (1, .int a1), (2, .long a2), (6, .int s3.2)]) hx hb dX0_steps_43 hl (by decide) rfl (fun ls hl => ?_)
        refine lv_iinc (v := (s3.2 + (1 : Int32))) (lv' := [(6, .int (s3.2 + (1 : Int32))), (4, .long (s3.1 ||| (q9 &&& a2))), (1, .int a1), (2, .long a2)]) hx hb dX0_steps_45 hl (k := 3) rfl (congrArg (fun y => s3.2 + y) (by decide : Int32.ofInt (1) = (1 : Int32))) (by decide) rfl (fun ls hl => ?_)
        refine lv_goto (tgt := 11) hx hb dX0_steps_48 (by decide) ?_
        exact hback1 _ (Option.some.inj hf).symm ls (lv_sub hl [2, 3, 1, 0] rfl)
      · have hc8 : ¬ ((s3.1 &&& q6) = (0 : Int64)) := fun h => hc8 ((lg_cmp_eq (s3.1 &&& q6) (0 : Int64)).mpr h)
        have hf := (if_neg hc8).symm.trans hf
        refine lv_iload hx hb dX0_steps_30 (lv_at hl 3 rfl) ?_
        have hres : s3.2 = res := (hexit1 _ ((Option.some.inj hf)).symm)
        exact W.iret (v := s3.2) hx hb hr (fun t ht hW => ⟨congrArg (fun z => Outcome.returned (some (Value.int z))) hres, trivial, ht⟩) t_nil dX0_steps_32
