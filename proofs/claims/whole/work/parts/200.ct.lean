/-! CONTRACTS, by program -/
set_option maxHeartbeats 4000000 in
set_option maxRecDepth 100000 in
theorem ct_X6_within (l : Launch) (n : Nat) (a0 : Int32) (a1 : Int32) (a2 : Int32) (res : Int32) (hf : fX6_within n a0 a1 a2 = some res) : Met l yX6_within wsX6_within ({ frames := 0, cells := 0, slots := 0, locals := 0 }) (va_Pc [.int a0, .int a1, .int a2] NW) (qS (some (.int res)) (narrow .boolean (.int res) = .int res)) 0 0 (fun _ => False) := by
  refine Met.ofW (cc := cX6_within) (maxL := 3) (ret := (some .boolean)) (by decide) rfl ?_
  intro p e s m args below meth c s₁ B hml hv
  obtain ⟨rfl, hI⟩ := hv
  have hx := B.exec
  have hb := B.bytes
  have hr := B.returns
  have hts := atoms_spec (ws := wsX6_within) B.pre
  have hown : s.vm.findClass RX6 = some m.cls := findClass_of_methodNamed B.named
  have hlocks := B.notSynchronized
  have hNW : NW s := hI
  have hl := lv_entry ([.int a0, .int a1, .int a2]) (n := 3) (Nat.le_of_ble_eq_true rfl)
  rw [lg_entry_eq]
  generalize (lg_sl ([.int a0, .int a1, .int a2]) ++ List.replicate (3 - (lg_sl ([.int a0, .int a1, .int a2])).length) Slot.unset).toArray = ls at hl ⊢
  have hl : lv_has ls 3 [(0, .int a0), (1, .int a1), (2, .int a2)] := hl
  unfold fX6_within at hf
  refine lv_iload_n hx hb dX6_within_0 rfl (lv_at hl 0 rfl) ?_
  refine lv_iload_n hx hb dX6_within_1 rfl (lv_at hl 1 rfl) ?_
  refine lv_icmp_lt (tgt := 14) hx hb dX6_within_2 (by decide) (fun hc1 => ?_) (fun hc1 => ?_)
  · have hf := (if_pos hc1).symm.trans hf
    refine lv_iconst (v := (0 : Int32)) hx hb dX6_within_14 (by decide) ?_
    have hres : (0 : Int32) = res := (Option.some.inj hf)
    have hnr : narrow .boolean (.int (0 : Int32)) = .int (0 : Int32) := rfl
    exact W.zret (v := (0 : Int32)) hx hb hr hnr (fun t ht hW => ⟨congrArg (fun z => Outcome.returned (some (Value.int z))) hres, Eq.mp (congrArg (fun z => narrow .boolean (.int z) = .int z) hres) hnr, ht⟩) t_nil dX6_within_15
  · have hf := (if_neg hc1).symm.trans hf
    refine lv_iload_n hx hb dX6_within_5 rfl (lv_at hl 0 rfl) ?_
    refine lv_iload_n hx hb dX6_within_6 rfl (lv_at hl 2 rfl) ?_
    refine lv_icmp_gt (tgt := 14) hx hb dX6_within_7 (by decide) (fun hc2 => ?_) (fun hc2 => ?_)
    · have hf := (if_pos hc2).symm.trans hf
      refine lv_iconst (v := (0 : Int32)) hx hb dX6_within_14 (by decide) ?_
      have hres : (0 : Int32) = res := (Option.some.inj hf)
      have hnr : narrow .boolean (.int (0 : Int32)) = .int (0 : Int32) := rfl
      exact W.zret (v := (0 : Int32)) hx hb hr hnr (fun t ht hW => ⟨congrArg (fun z => Outcome.returned (some (Value.int z))) hres, Eq.mp (congrArg (fun z => narrow .boolean (.int z) = .int z) hres) hnr, ht⟩) t_nil dX6_within_15
    · have hf := (if_neg hc2).symm.trans hf
      refine lv_iconst (v := (1 : Int32)) hx hb dX6_within_10 (by decide) ?_
      refine lv_goto (tgt := 15) hx hb dX6_within_11 (by decide) ?_
      have hres : (1 : Int32) = res := (Option.some.inj hf)
      have hnr : narrow .boolean (.int (1 : Int32)) = .int (1 : Int32) := rfl
      exact W.zret (v := (1 : Int32)) hx hb hr hnr (fun t ht hW => ⟨congrArg (fun z => Outcome.returned (some (Value.int z))) hres, Eq.mp (congrArg (fun z => narrow .boolean (.int z) = .int z) hres) hnr, ht⟩) t_nil dX6_within_15
set_option maxHeartbeats 4000000 in
set_option maxRecDepth 100000 in
theorem ct_X6_isCell (l : Launch) (n : Nat) (a0 : Int32) (res : Int32) (hf : fX6_isCell n a0 = some res) : Met l yX6_isCell wsX6_isCell ({ frames := 1, cells := 0, slots := 0, locals := 22 }) (va_Pc [.int a0] NW) (qS (some (.int res)) (narrow .boolean (.int res) = .int res)) 0 0 (fun _ => False) := by
  refine Met.ofW (cc := cX6_isCell) (maxL := 1) (ret := (some .boolean)) (by decide) rfl ?_
  intro p e s m args below meth c s₁ B hml hv
  obtain ⟨rfl, hI⟩ := hv
  have hx := B.exec
  have hb := B.bytes
  have hr := B.returns
  have hts := atoms_spec (ws := wsX6_isCell) B.pre
  have hown : s.vm.findClass RX6 = some m.cls := findClass_of_methodNamed B.named
  have hlocks := B.notSynchronized
  have hNW : NW s := hI
  have hl := lv_entry ([.int a0]) (n := 1) (Nat.le_of_ble_eq_true rfl)
  rw [lg_entry_eq]
  generalize (lg_sl ([.int a0]) ++ List.replicate (1 - (lg_sl ([.int a0])).length) Slot.unset).toArray = ls at hl ⊢
  have hl : lv_has ls 1 [(0, .int a0)] := hl
  unfold fX6_isCell at hf
  refine lv_iload_n hx hb dX6_isCell_0 rfl (lv_at hl 0 rfl) ?_
  refine lv_iconst (v := (0 : Int32)) hx hb dX6_isCell_1 (by decide) ?_
  refine lv_bipush (v := (35 : Int32)) hx hb dX6_isCell_2 (by decide) ?_
  obtain ⟨q1, hq1, hf⟩ := bd_some hf
  refine kr_S (st1 := [.int q1]) (va_runS (As := [.int a0, .int (0 : Int32), .int (35 : Int32)]) (rest := []) ⟨hx, hb, hml, hown, hts⟩ (ct_X6_within l n a0 (0 : Int32) (35 : Int32) q1 hq1) (va_cwS 3 hts gX6_isCell_X6_within rfl rfl rfl hn_X6_within ⟨Nat.le_of_ble_eq_true rfl, Nat.le_of_ble_eq_true rfl⟩) ⟨bl_N, pr_N rfl hNW⟩ rfl rfl hl.1 rfl (lv_room (Nat.le_of_ble_eq_true rfl)) dX6_isCell_4 ⟨Nat.le_refl _, Nat.le_refl _⟩) rfl (fun hn2 => ?_)
  have hres : q1 = res := (Option.some.inj hf)
  have hnr : narrow .boolean (.int q1) = .int q1 := hn2
  exact W.zret (v := q1) hx hb hr hnr (fun t ht hW => ⟨congrArg (fun z => Outcome.returned (some (Value.int z))) hres, Eq.mp (congrArg (fun z => narrow .boolean (.int z) = .int z) hres) hnr, ht⟩) t_nil dX6_isCell_7
set_option maxHeartbeats 4000000 in
set_option maxRecDepth 100000 in
theorem ct_X6_at (l : Launch) (n : Nat) (g : GC) (σ : CS) (q : Nat) (nn : Nat) (r_row : Nat → Int32) (hq : (cw g σ)[q]? = some (ga g q, cIA g nn r_row)) (a1 : Int32) (res : Int32) (hf : fX6_at n nn a1 r_row = some res) : Met l yX6_at wsX6_at ({ frames := 0, cells := 0, slots := 0, locals := 0 }) (va_Pc [.ref (ga g q), .int a1] (cI g σ)) (qS (some (.int res)) True) 0 0 (fun _ => False) := by
  refine Met.ofW (cc := cX6_at) (maxL := 2) (ret := (some .int)) (by decide) rfl ?_
  intro p e s m args below meth c s₁ B hml hv
  obtain ⟨rfl, hI⟩ := hv
  have hx := B.exec
  have hb := B.bytes
  have hr := B.returns
  have hts := atoms_spec (ws := wsX6_at) B.pre
  have hown : s.vm.findClass RX6 = some m.cls := findClass_of_methodNamed B.named
  have hlocks := B.notSynchronized
  have hP := hI.1
  have hB := hI.2
  have hK := hB.1
  have hNW := hB.2.1
  have hS : va_S (gA g) s.heap s.heap [] := va_S.rf
  have hl := lv_entry ([.ref (ga g q), .int a1]) (n := 2) (Nat.le_of_ble_eq_true rfl)
  rw [lg_entry_eq]
  generalize (lg_sl ([.ref (ga g q), .int a1]) ++ List.replicate (2 - (lg_sl ([.ref (ga g q), .int a1])).length) Slot.unset).toArray = ls at hl ⊢
  have hl : lv_has ls 2 [(0, .ref (ga g q)), (1, .int a1)] := hl
  unfold fX6_at at hf
  refine lv_iload_n hx hb dX6_at_0 rfl (lv_at hl 1 rfl) ?_
  refine lv_if_lt (tgt := 16) hx hb dX6_at_1 (by decide) (fun hc1 => ?_) (fun hc1 => ?_)
  · have hf := (if_pos hc1).symm.trans hf
    refine lv_iconst (v := (0 : Int32)) hx hb dX6_at_16 (by decide) ?_
    have hres : (0 : Int32) = res := (Option.some.inj hf)
    exact W.iret (v := (0 : Int32)) hx hb hr (fun t ht hW => ⟨congrArg (fun z => Outcome.returned (some (Value.int z))) hres, trivial, ht⟩) t_nil dX6_at_17
  · have hf := (if_neg hc1).symm.trans hf
    refine lv_iload_n hx hb dX6_at_4 rfl (lv_at hl 1 rfl) ?_
    refine lv_aload_n hx hb dX6_at_5 rfl (lv_at hl 0 rfl) ?_
    refine va_alen (v := (nI nn)) hx hb hK hP q 0 hq rfl rfl dX6_at_6 ?_
    refine lv_icmp_ge (tgt := 16) hx hb dX6_at_7 (by decide) (fun hc2 => ?_) (fun hc2 => ?_)
    · have hf := (if_pos hc2).symm.trans hf
      refine lv_iconst (v := (0 : Int32)) hx hb dX6_at_16 (by decide) ?_
      have hres : (0 : Int32) = res := (Option.some.inj hf)
      exact W.iret (v := (0 : Int32)) hx hb hr (fun t ht hW => ⟨congrArg (fun z => Outcome.returned (some (Value.int z))) hres, trivial, ht⟩) t_nil dX6_at_17
    · have hf := (if_neg hc2).symm.trans hf
      refine lv_aload_n hx hb dX6_at_10 rfl (lv_at hl 0 rfl) ?_
      refine lv_iload_n hx hb dX6_at_11 rfl (lv_at hl 1 rfl) ?_
      obtain ⟨hg3, hf⟩ := gd_some hf
      refine va_iald (f := r_row) hx hb hK hP q 0 hq rfl hg3 dX6_at_12 ?_
      refine lv_goto (tgt := 17) hx hb dX6_at_13 (by decide) ?_
      have hres : (r_row a1.toNatClampNeg) = res := (Option.some.inj hf)
      exact W.iret (v := (r_row a1.toNatClampNeg)) hx hb hr (fun t ht hW => ⟨congrArg (fun z => Outcome.returned (some (Value.int z))) hres, trivial, ht⟩) t_nil dX6_at_17
set_option maxHeartbeats 4000000 in
set_option maxRecDepth 100000 in
theorem ct_X6_put (l : Launch) (n : Nat) (g : GC) (σ : CS) (q : Nat) (nn : Nat) (r_row : Nat → Int32) (hq : (cw g σ)[q]? = some (ga g q, cIA g nn r_row)) (a1 : Int32) (a2 : Int32) (res : (Nat → Int32)) (hf : fX6_put n nn a1 a2 r_row = some res) : Met l yX6_put wsX6_put ({ frames := 0, cells := 0, slots := 0, locals := 0 }) (va_Pc [.ref (ga g q), .int a1, .int a2] (cI g σ)) (qW none True g.1 (((cw g σ).set q (ga g q, cIA g nn res))) (gA g)) 0 0 (gA g) := by
  refine Met.ofW (cc := cX6_put) (maxL := 3) (ret := none) (by decide) rfl ?_
  intro p e s m args below meth c s₁ B hml hv
  obtain ⟨rfl, hI⟩ := hv
  have hx := B.exec
  have hb := B.bytes
  have hr := B.returns
  have hts := atoms_spec (ws := wsX6_put) B.pre
  have hown : s.vm.findClass RX6 = some m.cls := findClass_of_methodNamed B.named
  have hlocks := B.notSynchronized
  have hP := hI.1
  have hB := hI.2
  have hK := hB.1
  have hNW := hB.2.1
  have hS : va_S (gA g) s.heap s.heap [] := va_S.rf
  have hP : va_P g.1 vwCl (((cw g σ).set q (ga g q, cIA g nn r_row))) s.heap := w_eq (set_same hq).symm hP
  have hl := lv_entry ([.ref (ga g q), .int a1, .int a2]) (n := 3) (Nat.le_of_ble_eq_true rfl)
  rw [lg_entry_eq]
  generalize (lg_sl ([.ref (ga g q), .int a1, .int a2]) ++ List.replicate (3 - (lg_sl ([.ref (ga g q), .int a1, .int a2])).length) Slot.unset).toArray = ls at hl ⊢
  have hl : lv_has ls 3 [(0, .ref (ga g q)), (1, .int a1), (2, .int a2)] := hl
  unfold fX6_put at hf
  refine lv_iload_n hx hb dX6_put_0 rfl (lv_at hl 1 rfl) ?_
  refine lv_if_lt (tgt := 14) hx hb dX6_put_1 (by decide) (fun hc1 => ?_) (fun hc1 => ?_)
  · have hf := (if_pos hc1).symm.trans hf
    have hres : r_row = res := (Option.some.inj hf)
    have hP := w_eq (congrArg (fun z => ((cw g σ).set q (ga g q, cIA g nn z))) hres) hP
    exact W.vret hx hb hr (fun t ht hW => ⟨rfl, trivial, by rw [ht]; exact hP, hS.F ht⟩) hS.2.2 dX6_put_14
  · have hf := (if_neg hc1).symm.trans hf
    refine lv_iload_n hx hb dX6_put_4 rfl (lv_at hl 1 rfl) ?_
    refine lv_aload_n hx hb dX6_put_5 rfl (lv_at hl 0 rfl) ?_
    refine va_alen (v := (nI nn)) hx hb hK hP q 0 (set_at _ hq) rfl rfl dX6_put_6 ?_
    refine lv_icmp_ge (tgt := 14) hx hb dX6_put_7 (by decide) (fun hc2 => ?_) (fun hc2 => ?_)
    · have hf := (if_pos hc2).symm.trans hf
      have hres : r_row = res := (Option.some.inj hf)
      have hP := w_eq (congrArg (fun z => ((cw g σ).set q (ga g q, cIA g nn z))) hres) hP
      exact W.vret hx hb hr (fun t ht hW => ⟨rfl, trivial, by rw [ht]; exact hP, hS.F ht⟩) hS.2.2 dX6_put_14
    · have hf := (if_neg hc2).symm.trans hf
      refine lv_aload_n hx hb dX6_put_10 rfl (lv_at hl 0 rfl) ?_
      refine lv_iload_n hx hb dX6_put_11 rfl (lv_at hl 1 rfl) ?_
      refine lv_iload_n hx hb dX6_put_12 rfl (lv_at hl 2 rfl) ?_
      obtain ⟨hg3, hf⟩ := gd_some hf
      refine va_iast (f := r_row) hx hb hK hP (cDs hB.2.2.1 _ _ _) hS q 0 (set_at _ hq) rfl hg3 dX6_put_13 (fun H locs hP _ hS => ?_)
      have hP : va_P g.1 vwCl ((cw g σ).set q (ga g q, cIA g nn (upd r_row a1.toNatClampNeg a2))) H := w_eq (set_set2 _ _ _ _) hP
      have hres : (upd r_row a1.toNatClampNeg a2) = res := (Option.some.inj hf)
      have hP := w_eq (congrArg (fun z => ((cw g σ).set q (ga g q, cIA g nn z))) hres) hP
      exact W.vret hx hb hr (fun t ht hW => ⟨rfl, trivial, by rw [ht]; exact hP, hS.F ht⟩) hS.2.2 dX6_put_14
set_option maxHeartbeats 4000000 in
set_option maxRecDepth 100000 in
theorem ct_X6_finding (l : Launch) (n : Nat) (g : GC) (p0_paths : Nat → Int32) (p0_water : Int64) (p0_wall : Int64) (p0_kind : Nat → Int32) (p0_place : Nat → Int32) (p0_facing : Nat → Int32) (p0_age : Nat → Int32) (p0_seeds : Int32) (p0_season : Int32) (p0_z : Int32) (p0_spots : Nat → Int32) (p1_paths : Nat → Int32) (p1_water : Int64) (p1_wall : Int64) (p1_kind : Nat → Int32) (p1_place : Nat → Int32) (p1_facing : Nat → Int32) (p1_age : Nat → Int32) (p1_seeds : Int32) (p1_season : Int32) (p1_z : Int32) (p1_spots : Nat → Int32) (p2_paths : Nat → Int32) (p2_water : Int64) (p2_wall : Int64) (p2_kind : Nat → Int32) (p2_place : Nat → Int32) (p2_facing : Nat → Int32) (p2_age : Nat → Int32) (p2_seeds : Int32) (p2_season : Int32) (p2_z : Int32) (p2_spots : Nat → Int32) (t_bytes : Nat → Int32) (t_length : Int32) (t_sort : Int32) (t_start : Int32) (t_end : Int32) (t_value : Int32) (h_numbers : Nat → Nat → Int32) (h_bits : Nat → Int32) (h_size : Nat → Int32) (w_isKept : Int32) (w_told : Nat → Int32) (a1 : Int32) (res : Int32 × (Nat → Int32)) (hf : fX6_finding n a1 w_told = some res) : Met l yX6_finding wsX6_finding ({ frames := 1, cells := 0, slots := 0, locals := 22 }) (va_Pc [.ref (ga g 0), .int a1] (cI g (pk3 (p0_paths, p0_water, p0_wall, p0_kind, p0_place, p0_facing, p0_age, p0_seeds, p0_season, p0_z, p0_spots) (p1_paths, p1_water, p1_wall, p1_kind, p1_place, p1_facing, p1_age, p1_seeds, p1_season, p1_z, p1_spots) (p2_paths, p2_water, p2_wall, p2_kind, p2_place, p2_facing, p2_age, p2_seeds, p2_season, p2_z, p2_spots), w_isKept, (t_bytes, t_length, t_sort, t_start, t_end, t_value), (h_numbers, h_bits, h_size), w_told))) (qW (some (.int res.1)) True g.1 (cw g (pk3 (p0_paths, p0_water, p0_wall, p0_kind, p0_place, p0_facing, p0_age, p0_seeds, p0_season, p0_z, p0_spots) (p1_paths, p1_water, p1_wall, p1_kind, p1_place, p1_facing, p1_age, p1_seeds, p1_season, p1_z, p1_spots) (p2_paths, p2_water, p2_wall, p2_kind, p2_place, p2_facing, p2_age, p2_seeds, p2_season, p2_z, p2_spots), w_isKept, (t_bytes, t_length, t_sort, t_start, t_end, t_value), (h_numbers, h_bits, h_size), res.2)) (gA g)) 0 0 (gA g) := by
  refine Met.ofW (cc := cX6_finding) (maxL := 2) (ret := (some .int)) (by decide) rfl ?_
  intro p e s m args below meth c s₁ B hml hv
  obtain ⟨rfl, hI⟩ := hv
  have hx := B.exec
  have hb := B.bytes
  have hr := B.returns
  have hts := atoms_spec (ws := wsX6_finding) B.pre
  have hown : s.vm.findClass RX6 = some m.cls := findClass_of_methodNamed B.named
  have hlocks := B.notSynchronized
  have hP := hI.1
  have hB := hI.2
  have hK := hB.1
  have hNW := hB.2.1
  have hS : va_S (gA g) s.heap s.heap [] := va_S.rf
  have hw0 := hts (.fieldLink RX6 29 "SownPaths" "told" "[I") (by decide +kernel)
  have hw1 := hts (.constant RX6 310 (-1000001)) (by decide +kernel)
  have iwX6 : ∀ w ∈ wsX60, w ∈ wsX6_finding := fun w h => List.mem_cons_of_mem _ (List.mem_append_right _ h)
  have hl := lv_entry ([.ref (ga g 0), .int a1]) (n := 2) (Nat.le_of_ble_eq_true rfl)
  rw [lg_entry_eq]
  generalize (lg_sl ([.ref (ga g 0), .int a1]) ++ List.replicate (2 - (lg_sl ([.ref (ga g 0), .int a1])).length) Slot.unset).toArray = ls at hl ⊢
  have hl : lv_has ls 2 [(0, .ref (ga g 0)), (1, .int a1)] := hl
  unfold fX6_finding at hf
  refine lv_aload_n hx hb dX6_finding_0 rfl (lv_at hl 0 rfl) ?_
  refine va_get (D := g.1) (ci := 4) (v := .ref (ga g 5)) (C := RX6) (T := TX6) (N := 7) hx hb hts iwX6 hown hK hP 0 q_sp rfl 6 (by decide) hw0 (fun _ h9 => h9) rfl dX6_finding_1 ?_
  refine lv_iload_n hx hb dX6_finding_4 rfl (lv_at hl 1 rfl) ?_
  refine lv_aload_n hx hb dX6_finding_5 rfl (lv_at hl 0 rfl) ?_
  refine va_get (D := g.1) (ci := 4) (v := .ref (ga g 5)) (C := RX6) (T := TX6) (N := 7) hx hb hts iwX6 hown hK hP 0 q_sp rfl 6 (by decide) hw0 (fun _ h9 => h9) rfl dX6_finding_6 ?_
  refine lv_iload_n hx hb dX6_finding_9 rfl (lv_at hl 1 rfl) ?_
  obtain ⟨q1, hq1, hf⟩ := bd_some hf
  refine kr_S (st1 := [.int q1, .int a1, .ref (ga g 5)]) (va_runS (As := [.ref (ga g 5), .int a1]) (rest := [.int a1, .ref (ga g 5)]) ⟨hx, hb, hml, hown, hts⟩ (ct_X6_at l n g (pk3 (p0_paths, p0_water, p0_wall, p0_kind, p0_place, p0_facing, p0_age, p0_seeds, p0_season, p0_z, p0_spots) (p1_paths, p1_water, p1_wall, p1_kind, p1_place, p1_facing, p1_age, p1_seeds, p1_season, p1_z, p1_spots) (p2_paths, p2_water, p2_wall, p2_kind, p2_place, p2_facing, p2_age, p2_seeds, p2_season, p2_z, p2_spots), w_isKept, (t_bytes, t_length, t_sort, t_start, t_end, t_value), (h_numbers, h_bits, h_size), w_told) 5 7 w_told q_told a1 q1 hq1) (va_cwS 2 hts gX6_finding_X6_at rfl rfl rfl hn_X6_at ⟨Nat.le_of_ble_eq_true rfl, Nat.le_of_ble_eq_true rfl⟩) ⟨bl_C, pr_C rfl hB hP hS⟩ rfl rfl hl.1 rfl (lv_room (Nat.le_of_ble_eq_true rfl)) dX6_finding_10 ⟨Nat.le_refl _, Nat.le_refl _⟩) rfl (fun hn2 => ?_)
  refine lv_iconst (v := (1 : Int32)) hx hb dX6_finding_13 (by decide) ?_
  refine lv_iadd hx hb dX6_finding_14 ?_
  obtain ⟨q3, hq3, hf⟩ := bd_some hf
  refine kr_W (st1 := []) (va_runS (As := [.ref (ga g 5), .int a1, .int (q1 + (1 : Int32))]) (rest := []) ⟨hx, hb, hml, hown, hts⟩ (ct_X6_put l n g (pk3 (p0_paths, p0_water, p0_wall, p0_kind, p0_place, p0_facing, p0_age, p0_seeds, p0_season, p0_z, p0_spots) (p1_paths, p1_water, p1_wall, p1_kind, p1_place, p1_facing, p1_age, p1_seeds, p1_season, p1_z, p1_spots) (p2_paths, p2_water, p2_wall, p2_kind, p2_place, p2_facing, p2_age, p2_seeds, p2_season, p2_z, p2_spots), w_isKept, (t_bytes, t_length, t_sort, t_start, t_end, t_value), (h_numbers, h_bits, h_size), w_told) 5 7 w_told q_told a1 (q1 + (1 : Int32)) q3 hq3) (va_cwS 3 hts gX6_finding_X6_put rfl rfl rfl hn_X6_put ⟨Nat.le_of_ble_eq_true rfl, Nat.le_of_ble_eq_true rfl⟩) ⟨bl_C, pr_C rfl hB hP hS⟩ rfl rfl hl.1 rfl (lv_room (Nat.le_of_ble_eq_true rfl)) dX6_finding_15 ⟨Nat.le_refl _, Nat.le_refl _⟩) hS rfl (fun hn4 H locs hP hS => ?_)
  have hP : va_P g.1 vwCl (cw g (pk3 (p0_paths, p0_water, p0_wall, p0_kind, p0_place, p0_facing, p0_age, p0_seeds, p0_season, p0_z, p0_spots) (p1_paths, p1_water, p1_wall, p1_kind, p1_place, p1_facing, p1_age, p1_seeds, p1_season, p1_z, p1_spots) (p2_paths, p2_water, p2_wall, p2_kind, p2_place, p2_facing, p2_age, p2_seeds, p2_season, p2_z, p2_spots), w_isKept, (t_bytes, t_length, t_sort, t_start, t_end, t_value), (h_numbers, h_bits, h_size), q3)) H := w_eq (s_told q3) hP
  refine lv_ldcw (v := (-1000001 : Int32)) hx hb hown hw1 dX6_finding_18 ?_
  refine lv_iload_n hx hb dX6_finding_21 rfl (lv_at hl 1 rfl) ?_
  refine lv_isub hx hb dX6_finding_22 ?_
  have hres : (((-1000001 : Int32) - a1), q3) = res := (Option.some.inj hf)
  have hP := w_eq (congrArg (fun z => cw g (pk3 (p0_paths, p0_water, p0_wall, p0_kind, p0_place, p0_facing, p0_age, p0_seeds, p0_season, p0_z, p0_spots) (p1_paths, p1_water, p1_wall, p1_kind, p1_place, p1_facing, p1_age, p1_seeds, p1_season, p1_z, p1_spots) (p2_paths, p2_water, p2_wall, p2_kind, p2_place, p2_facing, p2_age, p2_seeds, p2_season, p2_z, p2_spots), w_isKept, (t_bytes, t_length, t_sort, t_start, t_end, t_value), (h_numbers, h_bits, h_size), z.2)) hres) hP
  exact W.iret (v := ((-1000001 : Int32) - a1)) hx hb hr (fun t ht hW => ⟨congrArg (fun z => Outcome.returned (some (Value.int z.1))) hres, trivial, by rw [ht]; exact hP, hS.F ht⟩) hS.2.2 dX6_finding_23
set_option maxHeartbeats 4000000 in
set_option maxRecDepth 100000 in
theorem ct_X6_bit (l : Launch) (n : Nat) (a0 : Int32) (res : Int64) (hf : fX6_bit n a0 = some res) : Met l yX6_bit wsX6_bit ({ frames := 0, cells := 0, slots := 0, locals := 0 }) (va_Pc [.int a0] NW) (qS (some (.long res)) True) 0 0 (fun _ => False) := by
  refine Met.ofW (cc := cX6_bit) (maxL := 1) (ret := (some .long)) (by decide) rfl ?_
  intro p e s m args below meth c s₁ B hml hv
  obtain ⟨rfl, hI⟩ := hv
  have hx := B.exec
  have hb := B.bytes
  have hr := B.returns
  have hts := atoms_spec (ws := wsX6_bit) B.pre
  have hown : s.vm.findClass RX6 = some m.cls := findClass_of_methodNamed B.named
  have hlocks := B.notSynchronized
  have hNW : NW s := hI
  have hl := lv_entry ([.int a0]) (n := 1) (Nat.le_of_ble_eq_true rfl)
  rw [lg_entry_eq]
  generalize (lg_sl ([.int a0]) ++ List.replicate (1 - (lg_sl ([.int a0])).length) Slot.unset).toArray = ls at hl ⊢
  have hl : lv_has ls 1 [(0, .int a0)] := hl
  unfold fX6_bit at hf
  refine lv_lconst (v := (1 : Int64)) hx hb dX6_bit_0 (by decide) ?_
  refine lv_iload_n hx hb dX6_bit_1 rfl (lv_at hl 0 rfl) ?_
  refine lv_lshl (v := ((1 : Int64) <<< (a0.toInt64 &&& 63))) hx hb dX6_bit_2 rfl ?_
  have hres : ((1 : Int64) <<< (a0.toInt64 &&& 63)) = res := (Option.some.inj hf)
  exact W.lret (v := ((1 : Int64) <<< (a0.toInt64 &&& 63))) hx hb hr (fun t ht hW => ⟨congrArg (fun z => Outcome.returned (some (Value.long z))) hres, trivial, ht⟩) t_nil dX6_bit_3
set_option maxHeartbeats 4000000 in
set_option maxRecDepth 100000 in
theorem ct_X2_groundOf (l : Launch) (n : Nat) (g : GC) (σ : CS) (k : Nat) (hk : k < 3) (f_paths : Nat → Int32) (f_water : Int64) (f_wall : Int64) (f_kind : Nat → Int32) (f_place : Nat → Int32) (f_facing : Nat → Int32) (f_age : Nat → Int32) (f_seeds : Int32) (f_season : Int32) (f_z : Int32) (f_spots : Nat → Int32) (he : σ.1 k = (f_paths, f_water, f_wall, f_kind, f_place, f_facing, f_age, f_seeds, f_season, f_z, f_spots)) (a1 : Int32) (res : Int32) (hf : fX2_groundOf n a1 f_water f_wall = some res) : Met l yX2_groundOf wsX2_groundOf ({ frames := 1, cells := 0, slots := 0, locals := 20 }) (va_Pc [.ref (ga g (1 + k)), .int a1] (cI g σ)) (qS (some (.int res)) True) 0 0 (fun _ => False) := by
  refine Met.ofW (cc := cX2_groundOf) (maxL := 2) (ret := (some .int)) (by decide) rfl ?_
  intro p e s m args below meth c s₁ B hml hv
  obtain ⟨rfl, hI⟩ := hv
  have hx := B.exec
  have hb := B.bytes
  have hr := B.returns
  have hts := atoms_spec (ws := wsX2_groundOf) B.pre
  have hown : s.vm.findClass RX2 = some m.cls := findClass_of_methodNamed B.named
  have hlocks := B.notSynchronized
  have hP := hI.1
  have hB := hI.2
  have hK := hB.1
  have hNW := hB.2.1
  have hS : va_S (gA g) s.heap s.heap [] := va_S.rf
  have hw0 := hts (.fieldLink RX2 33 "SownPaths$Park" "water" "J") (by decide +kernel)
  have hw1 := hts (.initialized RX6) (by decide +kernel)
  have hw2 := hts (.static yX6_bit) (by decide +kernel)
  have hw3 := hts (.fieldLink RX2 37 "SownPaths$Park" "wall" "J") (by decide +kernel)
  have iwX2 : ∀ w ∈ wsX20, w ∈ wsX2_groundOf := fun w h => List.mem_cons_of_mem _ (List.mem_append_right _ h)
  have hl := lv_entry ([.ref (ga g (1 + k)), .int a1]) (n := 2) (Nat.le_of_ble_eq_true rfl)
  rw [lg_entry_eq]
  generalize (lg_sl ([.ref (ga g (1 + k)), .int a1]) ++ List.replicate (2 - (lg_sl ([.ref (ga g (1 + k)), .int a1])).length) Slot.unset).toArray = ls at hl ⊢
  have hl : lv_has ls 2 [(0, .ref (ga g (1 + k))), (1, .int a1)] := hl
  unfold fX2_groundOf at hf
  refine lv_aload_n hx hb dX2_groundOf_0 rfl (lv_at hl 0 rfl) ?_
  refine va_get (D := g.1) (ci := 0) (v := .long f_water) (C := RX2) (T := TX2) (N := 8) hx hb hts iwX2 hown hK hP (1 + k) (e_pk hk he (Q := (f_paths, f_water, f_wall, f_kind, f_place, f_facing, f_age, f_seeds, f_season, f_z, f_spots))) rfl 1 (by decide) hw0 (fun _ h9 => h9) rfl dX2_groundOf_1 ?_
  refine lv_iload_n hx hb dX2_groundOf_4 rfl (lv_at hl 1 rfl) ?_
  obtain ⟨q1, hq1, hf⟩ := bd_some hf
  refine kr_S (st1 := [.long q1, .long f_water]) (va_runSN (As := [.int a1]) (rest := [.long f_water]) ⟨hx, hb, hml, hown, hts⟩ (ct_X6_bit l n a1 q1 hq1) (⟨va_cnB 1 hts gX2_groundOf_X6_bit_n77 rfl rfl rfl (ml_X2_77 hNW) hw1 hn_X6_bit ⟨Nat.le_of_ble_eq_true rfl, Nat.le_of_ble_eq_true rfl⟩, hw2, trivial⟩) ⟨bl_N, pr_N rfl hNW⟩ rfl rfl hl.1 rfl (lv_room (Nat.le_of_ble_eq_true rfl)) dX2_groundOf_5 ⟨Nat.le_refl _, Nat.le_refl _⟩) rfl (fun hn2 => ?_)
  refine lv_land hx hb dX2_groundOf_8 ?_
  refine lv_lconst (v := (0 : Int64)) hx hb dX2_groundOf_9 (by decide) ?_
  refine W.lcmp hx hb dX2_groundOf_10 ?_
  refine lv_if_eq (tgt := 16) hx hb dX2_groundOf_11 (by decide) (fun hc3 => ?_) (fun hc3 => ?_)
  · have hc3 := (lg_cmp_eq (f_water &&& q1) (0 : Int64)).mp hc3
    have hf := (if_pos hc3).symm.trans hf
    refine lv_aload_n hx hb dX2_groundOf_16 rfl (lv_at hl 0 rfl) ?_
    refine va_get (D := g.1) (ci := 0) (v := .long f_wall) (C := RX2) (T := TX2) (N := 8) hx hb hts iwX2 hown hK hP (1 + k) (e_pk hk he (Q := (f_paths, f_water, f_wall, f_kind, f_place, f_facing, f_age, f_seeds, f_season, f_z, f_spots))) rfl 2 (by decide) hw3 (fun _ h9 => h9) rfl dX2_groundOf_17 ?_
    refine lv_iload_n hx hb dX2_groundOf_20 rfl (lv_at hl 1 rfl) ?_
    obtain ⟨q4, hq4, hf⟩ := bd_some hf
    refine kr_S (st1 := [.long q4, .long f_wall]) (va_runSN (As := [.int a1]) (rest := [.long f_wall]) ⟨hx, hb, hml, hown, hts⟩ (ct_X6_bit l n a1 q4 hq4) (⟨va_cnB 1 hts gX2_groundOf_X6_bit_n77 rfl rfl rfl (ml_X2_77 hNW) hw1 hn_X6_bit ⟨Nat.le_of_ble_eq_true rfl, Nat.le_of_ble_eq_true rfl⟩, hw2, trivial⟩) ⟨bl_N, pr_N rfl hNW⟩ rfl rfl hl.1 rfl (lv_room (Nat.le_of_ble_eq_true rfl)) dX2_groundOf_21 ⟨Nat.le_refl _, Nat.le_refl _⟩) rfl (fun hn5 => ?_)
    refine lv_land hx hb dX2_groundOf_24 ?_
    refine lv_lconst (v := (0 : Int64)) hx hb dX2_groundOf_25 (by decide) ?_
    refine W.lcmp hx hb dX2_groundOf_26 ?_
    refine lv_if_eq (tgt := 34) hx hb dX2_groundOf_27 (by decide) (fun hc6 => ?_) (fun hc6 => ?_)
    · have hc6 := (lg_cmp_eq (f_wall &&& q4) (0 : Int64)).mp hc6
      have hf := (if_pos hc6).symm.trans hf
      refine lv_iconst (v := (0 : Int32)) hx hb dX2_groundOf_34 (by decide) ?_
      have hres : (0 : Int32) = res := (Option.some.inj hf)
      exact W.iret (v := (0 : Int32)) hx hb hr (fun t ht hW => ⟨congrArg (fun z => Outcome.returned (some (Value.int z))) hres, trivial, ht⟩) t_nil dX2_groundOf_35
    · have hc6 : ¬ ((f_wall &&& q4) = (0 : Int64)) := fun h => hc6 ((lg_cmp_eq (f_wall &&& q4) (0 : Int64)).mpr h)
      have hf := (if_neg hc6).symm.trans hf
      refine lv_iconst (v := (2 : Int32)) hx hb dX2_groundOf_30 (by decide) ?_
      refine lv_goto (tgt := 35) hx hb dX2_groundOf_31 (by decide) ?_
      have hres : (2 : Int32) = res := (Option.some.inj hf)
      exact W.iret (v := (2 : Int32)) hx hb hr (fun t ht hW => ⟨congrArg (fun z => Outcome.returned (some (Value.int z))) hres, trivial, ht⟩) t_nil dX2_groundOf_35
  · have hc3 : ¬ ((f_water &&& q1) = (0 : Int64)) := fun h => hc3 ((lg_cmp_eq (f_water &&& q1) (0 : Int64)).mpr h)
    have hf := (if_neg hc3).symm.trans hf
    refine lv_iconst (v := (1 : Int32)) hx hb dX2_groundOf_14 (by decide) ?_
    have hres : (1 : Int32) = res := (Option.some.inj hf)
    exact W.iret (v := (1 : Int32)) hx hb hr (fun t ht hW => ⟨congrArg (fun z => Outcome.returned (some (Value.int z))) hres, trivial, ht⟩) t_nil dX2_groundOf_15
set_option maxHeartbeats 4000000 in
set_option maxRecDepth 100000 in
theorem ct_X2_becomeGround (l : Launch) (n : Nat) (g : GC) (S : PK → CS) (k : Nat) (hk : k < 3) (hL : zP k S) (f_paths : Nat → Int32) (f_water : Int64) (f_wall : Int64) (f_kind : Nat → Int32) (f_place : Nat → Int32) (f_facing : Nat → Int32) (f_age : Nat → Int32) (f_seeds : Int32) (f_season : Int32) (f_z : Int32) (f_spots : Nat → Int32) (a1 : Int32) (a2 : Int32) (res : (Nat → Int32) × Int64 × Int64) (hf : fX2_becomeGround n a1 a2 f_paths f_water f_wall = some res) : Met l yX2_becomeGround wsX2_becomeGround ({ frames := 1, cells := 0, slots := 0, locals := 22 }) (va_Pc [.ref (ga g (1 + k)), .int a1, .int a2] (cI g (S (f_paths, f_water, f_wall, f_kind, f_place, f_facing, f_age, f_seeds, f_season, f_z, f_spots)))) (qW none True g.1 (cw g (S (res.1, res.2.1, res.2.2, f_kind, f_place, f_facing, f_age, f_seeds, f_season, f_z, f_spots))) (gA g)) 0 0 (gA g) := by
  refine Met.ofW (cc := cX2_becomeGround) (maxL := 3) (ret := none) (by decide) rfl ?_
  intro p e s m args below meth c s₁ B hml hv
  obtain ⟨rfl, hI⟩ := hv
  have hx := B.exec
  have hb := B.bytes
  have hr := B.returns
  have hts := atoms_spec (ws := wsX2_becomeGround) B.pre
  have hown : s.vm.findClass RX2 = some m.cls := findClass_of_methodNamed B.named
  have hlocks := B.notSynchronized
  have hP := hI.1
  have hB := hI.2
  have hK := hB.1
  have hNW := hB.2.1
  have hS : va_S (gA g) s.heap s.heap [] := va_S.rf
  have hw0 := hts (.fieldLink RX2 33 "SownPaths$Park" "water" "J") (by decide +kernel)
  have hw1 := hts (.initialized RX6) (by decide +kernel)
  have hw2 := hts (.static yX6_bit) (by decide +kernel)
  have hw3 := hts (.constantLong RX2 81 (-1)) (by decide +kernel)
  have hw4 := hts (.fieldLink RX2 37 "SownPaths$Park" "wall" "J") (by decide +kernel)
  have hw5 := hts (.fieldLink RX2 9 "SownPaths$Park" "paths" "[I") (by decide +kernel)
  have hw6 := hts (.static yX6_put) (by decide +kernel)
  have iwX2 : ∀ w ∈ wsX20, w ∈ wsX2_becomeGround := fun w h => List.mem_cons_of_mem _ (List.mem_append_right _ h)
  have hl := lv_entry ([.ref (ga g (1 + k)), .int a1, .int a2]) (n := 3) (Nat.le_of_ble_eq_true rfl)
  rw [lg_entry_eq]
  generalize (lg_sl ([.ref (ga g (1 + k)), .int a1, .int a2]) ++ List.replicate (3 - (lg_sl ([.ref (ga g (1 + k)), .int a1, .int a2])).length) Slot.unset).toArray = ls at hl ⊢
  have hl : lv_has ls 3 [(0, .ref (ga g (1 + k))), (1, .int a1), (2, .int a2)] := hl
  unfold fX2_becomeGround at hf
  refine lv_aload_n hx hb dX2_becomeGround_0 rfl (lv_at hl 0 rfl) ?_
  refine lv_dup hx hb dX2_becomeGround_1 rfl ?_
  refine va_get (D := g.1) (ci := 0) (v := .long f_water) (C := RX2) (T := TX2) (N := 8) hx hb hts iwX2 hown hK hP (1 + k) (e_pk hk (hL.1 _) (Q := (f_paths, f_water, f_wall, f_kind, f_place, f_facing, f_age, f_seeds, f_season, f_z, f_spots))) rfl 1 (by decide) hw0 (fun _ h9 => h9) rfl dX2_becomeGround_2 ?_
  refine lv_iload_n hx hb dX2_becomeGround_5 rfl (lv_at hl 1 rfl) ?_
  obtain ⟨q1, hq1, hf⟩ := bd_some hf
  refine kr_S (st1 := [.long q1, .long f_water, .ref (ga g (1 + k))]) (va_runSN (As := [.int a1]) (rest := [.long f_water, .ref (ga g (1 + k))]) ⟨hx, hb, hml, hown, hts⟩ (ct_X6_bit l n a1 q1 hq1) (⟨va_cnB 1 hts gX2_becomeGround_X6_bit_n77 rfl rfl rfl (ml_X2_77 hNW) hw1 hn_X6_bit ⟨Nat.le_of_ble_eq_true rfl, Nat.le_of_ble_eq_true rfl⟩, hw2, trivial⟩) ⟨bl_N, pr_N rfl hNW⟩ rfl rfl hl.1 rfl (lv_room (Nat.le_of_ble_eq_true rfl)) dX2_becomeGround_6 ⟨Nat.le_refl _, Nat.le_refl _⟩) rfl (fun hn2 => ?_)
  refine lv_ldc2 (v := (-1 : Int64)) hx hb hown hw3 dX2_becomeGround_9 ?_
  refine lv_lxor hx hb dX2_becomeGround_12 ?_
  refine lv_land hx hb dX2_becomeGround_13 ?_
  refine va_put (D := g.1) (ci := 0) (v := .long (f_water &&& (q1 ^^^ (-1 : Int64)))) (ty := .long) (C := RX2) (T := TX2) (N := 8) hx hb hts iwX2 tyX2 tyX2_ok nmX2 hown hK hP (cD hB.2.2.1 _) hS (1 + k) (e_pk hk (hL.1 _) (Q := (f_paths, f_water, f_wall, f_kind, f_place, f_facing, f_age, f_seeds, f_season, f_z, f_spots))) rfl 1 (by decide) hw0 (fun _ h9 => h9) rfl (tyX2_ok 1 (by decide)) rfl rfl (Nat.le_of_ble_eq_true rfl) dX2_becomeGround_14 (fun H locs hP _ hS => ?_)
  have hP : va_P g.1 vwCl (cw g (S (f_paths, (f_water &&& (q1 ^^^ (-1 : Int64))), f_wall, f_kind, f_place, f_facing, f_age, f_seeds, f_season, f_z, f_spots))) H := w_eq (s_water (S := S) (P := (f_paths, f_water, f_wall, f_kind, f_place, f_facing, f_age, f_seeds, f_season, f_z, f_spots)) (f_water &&& (q1 ^^^ (-1 : Int64))) hk hL) hP
  refine lv_aload_n hx hb dX2_becomeGround_17 rfl (lv_at hl 0 rfl) ?_
  refine lv_dup hx hb dX2_becomeGround_18 rfl ?_
  refine va_get (D := g.1) (ci := 0) (v := .long f_wall) (C := RX2) (T := TX2) (N := 8) hx hb hts iwX2 hown hK hP (1 + k) (e_pk hk (hL.1 _) (Q := (f_paths, (f_water &&& (q1 ^^^ (-1 : Int64))), f_wall, f_kind, f_place, f_facing, f_age, f_seeds, f_season, f_z, f_spots))) rfl 2 (by decide) hw4 (fun _ h9 => h9) rfl dX2_becomeGround_19 ?_
  refine lv_iload_n hx hb dX2_becomeGround_22 rfl (lv_at hl 1 rfl) ?_
  obtain ⟨q3, hq3, hf⟩ := bd_some hf
  refine kr_S (st1 := [.long q3, .long f_wall, .ref (ga g (1 + k))]) (va_runSN (As := [.int a1]) (rest := [.long f_wall, .ref (ga g (1 + k))]) ⟨hx, hb, hml, hown, hts⟩ (ct_X6_bit l n a1 q3 hq3) (⟨va_cnB 1 hts gX2_becomeGround_X6_bit_n77 rfl rfl rfl (ml_X2_77 hNW) hw1 hn_X6_bit ⟨Nat.le_of_ble_eq_true rfl, Nat.le_of_ble_eq_true rfl⟩, hw2, trivial⟩) ⟨bl_N, pr_N rfl hNW⟩ rfl rfl hl.1 rfl (lv_room (Nat.le_of_ble_eq_true rfl)) dX2_becomeGround_23 ⟨Nat.le_refl _, Nat.le_refl _⟩) rfl (fun hn4 => ?_)
  refine lv_ldc2 (v := (-1 : Int64)) hx hb hown hw3 dX2_becomeGround_26 ?_
  refine lv_lxor hx hb dX2_becomeGround_29 ?_
  refine lv_land hx hb dX2_becomeGround_30 ?_
  refine va_put (D := g.1) (ci := 0) (v := .long (f_wall &&& (q3 ^^^ (-1 : Int64)))) (ty := .long) (C := RX2) (T := TX2) (N := 8) hx hb hts iwX2 tyX2 tyX2_ok nmX2 hown hK hP (cD hB.2.2.1 _) hS (1 + k) (e_pk hk (hL.1 _) (Q := (f_paths, (f_water &&& (q1 ^^^ (-1 : Int64))), f_wall, f_kind, f_place, f_facing, f_age, f_seeds, f_season, f_z, f_spots))) rfl 2 (by decide) hw4 (fun _ h9 => h9) rfl (tyX2_ok 2 (by decide)) rfl rfl (Nat.le_of_ble_eq_true rfl) dX2_becomeGround_31 (fun H locs hP _ hS => ?_)
  have hP : va_P g.1 vwCl (cw g (S (f_paths, (f_water &&& (q1 ^^^ (-1 : Int64))), (f_wall &&& (q3 ^^^ (-1 : Int64))), f_kind, f_place, f_facing, f_age, f_seeds, f_season, f_z, f_spots))) H := w_eq (s_wall (S := S) (P := (f_paths, (f_water &&& (q1 ^^^ (-1 : Int64))), f_wall, f_kind, f_place, f_facing, f_age, f_seeds, f_season, f_z, f_spots)) (f_wall &&& (q3 ^^^ (-1 : Int64))) hk hL) hP
  refine lv_iload_n hx hb dX2_becomeGround_34 rfl (lv_at hl 2 rfl) ?_
  refine lv_iconst (v := (1 : Int32)) hx hb dX2_becomeGround_35 (by decide) ?_
  refine lv_icmp_ne (tgt := 55) hx hb dX2_becomeGround_36 (by decide) (fun hc5 => ?_) (fun hc5 => ?_)
  · have hf := (if_neg hc5).symm.trans hf
    refine lv_iload_n hx hb dX2_becomeGround_55 rfl (lv_at hl 2 rfl) ?_
    refine lv_iconst (v := (2 : Int32)) hx hb dX2_becomeGround_56 (by decide) ?_
    refine lv_icmp_ne (tgt := 73) hx hb dX2_becomeGround_57 (by decide) (fun hc6 => ?_) (fun hc6 => ?_)
    · have hf := (if_neg hc6).symm.trans hf
      refine lv_iload_n hx hb dX2_becomeGround_73 rfl (lv_at hl 2 rfl) ?_
      refine lv_if_eq (tgt := 86) hx hb dX2_becomeGround_74 (by decide) (fun hc7 => ?_) (fun hc7 => ?_)
      · have hf := (if_pos hc7).symm.trans hf
        have hres : (f_paths, (f_water &&& (q1 ^^^ (-1 : Int64))), (f_wall &&& (q3 ^^^ (-1 : Int64)))) = res := (Option.some.inj hf)
        have hP := w_eq (congrArg (fun z => cw g (S (z.1, z.2.1, z.2.2, f_kind, f_place, f_facing, f_age, f_seeds, f_season, f_z, f_spots))) hres) hP
        exact W.vret hx hb hr (fun t ht hW => ⟨rfl, trivial, by rw [ht]; exact hP, hS.F ht⟩) hS.2.2 dX2_becomeGround_86
      · have hf := (if_neg hc7).symm.trans hf
        refine lv_aload_n hx hb dX2_becomeGround_77 rfl (lv_at hl 0 rfl) ?_
        refine va_get (D := g.1) (ci := 0) (v := .ref (ga g (16 + k))) (C := RX2) (T := TX2) (N := 8) hx hb hts iwX2 hown hK hP (1 + k) (e_pk hk (hL.1 _) (Q := (f_paths, (f_water &&& (q1 ^^^ (-1 : Int64))), (f_wall &&& (q3 ^^^ (-1 : Int64))), f_kind, f_place, f_facing, f_age, f_seeds, f_season, f_z, f_spots))) rfl 0 (by decide) hw5 (fun _ h9 => h9) rfl dX2_becomeGround_78 ?_
        refine lv_iload_n hx hb dX2_becomeGround_81 rfl (lv_at hl 1 rfl) ?_
        refine lv_iconst (v := (0 : Int32)) hx hb dX2_becomeGround_82 (by decide) ?_
        obtain ⟨q8, hq8, hf⟩ := bd_some hf
        refine kr_W (st1 := []) (va_runSN (As := [.ref (ga g (16 + k)), .int a1, .int (0 : Int32)]) (rest := []) ⟨hx, hb, hml, hown, hts⟩ (ct_X6_put l n g (S (f_paths, (f_water &&& (q1 ^^^ (-1 : Int64))), (f_wall &&& (q3 ^^^ (-1 : Int64))), f_kind, f_place, f_facing, f_age, f_seeds, f_season, f_z, f_spots)) (16 + k) 36 f_paths (e_pa hk (hL.1 _) (Q := (f_paths, (f_water &&& (q1 ^^^ (-1 : Int64))), (f_wall &&& (q3 ^^^ (-1 : Int64))), f_kind, f_place, f_facing, f_age, f_seeds, f_season, f_z, f_spots))) a1 (0 : Int32) q8 hq8) (⟨va_cnB 3 hts gX2_becomeGround_X6_put_n83 rfl rfl rfl (ml_X2_83 hNW) hw1 hn_X6_put ⟨Nat.le_of_ble_eq_true rfl, Nat.le_of_ble_eq_true rfl⟩, hw6, trivial⟩) ⟨bl_C, pr_C rfl hB hP hS⟩ rfl rfl hl.1 rfl (lv_room (Nat.le_of_ble_eq_true rfl)) dX2_becomeGround_83 ⟨Nat.le_refl _, Nat.le_refl _⟩) hS rfl (fun hn9 H locs hP hS => ?_)
        have hP : va_P g.1 vwCl (cw g (S (q8, (f_water &&& (q1 ^^^ (-1 : Int64))), (f_wall &&& (q3 ^^^ (-1 : Int64))), f_kind, f_place, f_facing, f_age, f_seeds, f_season, f_z, f_spots))) H := w_eq (s_paths (S := S) (P := (f_paths, (f_water &&& (q1 ^^^ (-1 : Int64))), (f_wall &&& (q3 ^^^ (-1 : Int64))), f_kind, f_place, f_facing, f_age, f_seeds, f_season, f_z, f_spots)) q8 hk hL) hP
        have hres : (q8, (f_water &&& (q1 ^^^ (-1 : Int64))), (f_wall &&& (q3 ^^^ (-1 : Int64)))) = res := (Option.some.inj hf)
        have hP := w_eq (congrArg (fun z => cw g (S (z.1, z.2.1, z.2.2, f_kind, f_place, f_facing, f_age, f_seeds, f_season, f_z, f_spots))) hres) hP
        exact W.vret hx hb hr (fun t ht hW => ⟨rfl, trivial, by rw [ht]; exact hP, hS.F ht⟩) hS.2.2 dX2_becomeGround_86
    · have hf := (if_pos hc6).symm.trans hf
      refine lv_aload_n hx hb dX2_becomeGround_60 rfl (lv_at hl 0 rfl) ?_
      refine lv_dup hx hb dX2_becomeGround_61 rfl ?_
      refine va_get (D := g.1) (ci := 0) (v := .long (f_wall &&& (q3 ^^^ (-1 : Int64)))) (C := RX2) (T := TX2) (N := 8) hx hb hts iwX2 hown hK hP (1 + k) (e_pk hk (hL.1 _) (Q := (f_paths, (f_water &&& (q1 ^^^ (-1 : Int64))), (f_wall &&& (q3 ^^^ (-1 : Int64))), f_kind, f_place, f_facing, f_age, f_seeds, f_season, f_z, f_spots))) rfl 2 (by decide) hw4 (fun _ h9 => h9) rfl dX2_becomeGround_62 ?_
      refine lv_iload_n hx hb dX2_becomeGround_65 rfl (lv_at hl 1 rfl) ?_
      obtain ⟨q10, hq10, hf⟩ := bd_some hf
      refine kr_S (st1 := [.long q10, .long (f_wall &&& (q3 ^^^ (-1 : Int64))), .ref (ga g (1 + k))]) (va_runSN (As := [.int a1]) (rest := [.long (f_wall &&& (q3 ^^^ (-1 : Int64))), .ref (ga g (1 + k))]) ⟨hx, hb, hml, hown, hts⟩ (ct_X6_bit l n a1 q10 hq10) (⟨va_cnB 1 hts gX2_becomeGround_X6_bit_n77 rfl rfl rfl (ml_X2_77 hNW) hw1 hn_X6_bit ⟨Nat.le_of_ble_eq_true rfl, Nat.le_of_ble_eq_true rfl⟩, hw2, trivial⟩) ⟨bl_N, pr_N rfl hNW⟩ rfl rfl hl.1 rfl (lv_room (Nat.le_of_ble_eq_true rfl)) dX2_becomeGround_66 ⟨Nat.le_refl _, Nat.le_refl _⟩) rfl (fun hn11 => ?_)
      refine lv_lor hx hb dX2_becomeGround_69 ?_
      refine va_put (D := g.1) (ci := 0) (v := .long ((f_wall &&& (q3 ^^^ (-1 : Int64))) ||| q10)) (ty := .long) (C := RX2) (T := TX2) (N := 8) hx hb hts iwX2 tyX2 tyX2_ok nmX2 hown hK hP (cD hB.2.2.1 _) hS (1 + k) (e_pk hk (hL.1 _) (Q := (f_paths, (f_water &&& (q1 ^^^ (-1 : Int64))), (f_wall &&& (q3 ^^^ (-1 : Int64))), f_kind, f_place, f_facing, f_age, f_seeds, f_season, f_z, f_spots))) rfl 2 (by decide) hw4 (fun _ h9 => h9) rfl (tyX2_ok 2 (by decide)) rfl rfl (Nat.le_of_ble_eq_true rfl) dX2_becomeGround_70 (fun H locs hP _ hS => ?_)
      have hP : va_P g.1 vwCl (cw g (S (f_paths, (f_water &&& (q1 ^^^ (-1 : Int64))), ((f_wall &&& (q3 ^^^ (-1 : Int64))) ||| q10), f_kind, f_place, f_facing, f_age, f_seeds, f_season, f_z, f_spots))) H := w_eq (s_wall (S := S) (P := (f_paths, (f_water &&& (q1 ^^^ (-1 : Int64))), (f_wall &&& (q3 ^^^ (-1 : Int64))), f_kind, f_place, f_facing, f_age, f_seeds, f_season, f_z, f_spots)) ((f_wall &&& (q3 ^^^ (-1 : Int64))) ||| q10) hk hL) hP
      refine lv_iload_n hx hb dX2_becomeGround_73 rfl (lv_at hl 2 rfl) ?_
      refine lv_if_eq (tgt := 86) hx hb dX2_becomeGround_74 (by decide) (fun hc12 => ?_) (fun hc12 => ?_)
      · have hf := (if_pos hc12).symm.trans hf
        have hres : (f_paths, (f_water &&& (q1 ^^^ (-1 : Int64))), ((f_wall &&& (q3 ^^^ (-1 : Int64))) ||| q10)) = res := (Option.some.inj hf)
        have hP := w_eq (congrArg (fun z => cw g (S (z.1, z.2.1, z.2.2, f_kind, f_place, f_facing, f_age, f_seeds, f_season, f_z, f_spots))) hres) hP
        exact W.vret hx hb hr (fun t ht hW => ⟨rfl, trivial, by rw [ht]; exact hP, hS.F ht⟩) hS.2.2 dX2_becomeGround_86
      · have hf := (if_neg hc12).symm.trans hf
        refine lv_aload_n hx hb dX2_becomeGround_77 rfl (lv_at hl 0 rfl) ?_
        refine va_get (D := g.1) (ci := 0) (v := .ref (ga g (16 + k))) (C := RX2) (T := TX2) (N := 8) hx hb hts iwX2 hown hK hP (1 + k) (e_pk hk (hL.1 _) (Q := (f_paths, (f_water &&& (q1 ^^^ (-1 : Int64))), ((f_wall &&& (q3 ^^^ (-1 : Int64))) ||| q10), f_kind, f_place, f_facing, f_age, f_seeds, f_season, f_z, f_spots))) rfl 0 (by decide) hw5 (fun _ h9 => h9) rfl dX2_becomeGround_78 ?_
        refine lv_iload_n hx hb dX2_becomeGround_81 rfl (lv_at hl 1 rfl) ?_
        refine lv_iconst (v := (0 : Int32)) hx hb dX2_becomeGround_82 (by decide) ?_
        obtain ⟨q13, hq13, hf⟩ := bd_some hf
        refine kr_W (st1 := []) (va_runSN (As := [.ref (ga g (16 + k)), .int a1, .int (0 : Int32)]) (rest := []) ⟨hx, hb, hml, hown, hts⟩ (ct_X6_put l n g (S (f_paths, (f_water &&& (q1 ^^^ (-1 : Int64))), ((f_wall &&& (q3 ^^^ (-1 : Int64))) ||| q10), f_kind, f_place, f_facing, f_age, f_seeds, f_season, f_z, f_spots)) (16 + k) 36 f_paths (e_pa hk (hL.1 _) (Q := (f_paths, (f_water &&& (q1 ^^^ (-1 : Int64))), ((f_wall &&& (q3 ^^^ (-1 : Int64))) ||| q10), f_kind, f_place, f_facing, f_age, f_seeds, f_season, f_z, f_spots))) a1 (0 : Int32) q13 hq13) (⟨va_cnB 3 hts gX2_becomeGround_X6_put_n83 rfl rfl rfl (ml_X2_83 hNW) hw1 hn_X6_put ⟨Nat.le_of_ble_eq_true rfl, Nat.le_of_ble_eq_true rfl⟩, hw6, trivial⟩) ⟨bl_C, pr_C rfl hB hP hS⟩ rfl rfl hl.1 rfl (lv_room (Nat.le_of_ble_eq_true rfl)) dX2_becomeGround_83 ⟨Nat.le_refl _, Nat.le_refl _⟩) hS rfl (fun hn14 H locs hP hS => ?_)
        have hP : va_P g.1 vwCl (cw g (S (q13, (f_water &&& (q1 ^^^ (-1 : Int64))), ((f_wall &&& (q3 ^^^ (-1 : Int64))) ||| q10), f_kind, f_place, f_facing, f_age, f_seeds, f_season, f_z, f_spots))) H := w_eq (s_paths (S := S) (P := (f_paths, (f_water &&& (q1 ^^^ (-1 : Int64))), ((f_wall &&& (q3 ^^^ (-1 : Int64))) ||| q10), f_kind, f_place, f_facing, f_age, f_seeds, f_season, f_z, f_spots)) q13 hk hL) hP
        have hres : (q13, (f_water &&& (q1 ^^^ (-1 : Int64))), ((f_wall &&& (q3 ^^^ (-1 : Int64))) ||| q10)) = res := (Option.some.inj hf)
        have hP := w_eq (congrArg (fun z => cw g (S (z.1, z.2.1, z.2.2, f_kind, f_place, f_facing, f_age, f_seeds, f_season, f_z, f_spots))) hres) hP
        exact W.vret hx hb hr (fun t ht hW => ⟨rfl, trivial, by rw [ht]; exact hP, hS.F ht⟩) hS.2.2 dX2_becomeGround_86
  · have hf := (if_pos hc5).symm.trans hf
    refine lv_aload_n hx hb dX2_becomeGround_39 rfl (lv_at hl 0 rfl) ?_
    refine lv_dup hx hb dX2_becomeGround_40 rfl ?_
    refine va_get (D := g.1) (ci := 0) (v := .long (f_water &&& (q1 ^^^ (-1 : Int64)))) (C := RX2) (T := TX2) (N := 8) hx hb hts iwX2 hown hK hP (1 + k) (e_pk hk (hL.1 _) (Q := (f_paths, (f_water &&& (q1 ^^^ (-1 : Int64))), (f_wall &&& (q3 ^^^ (-1 : Int64))), f_kind, f_place, f_facing, f_age, f_seeds, f_season, f_z, f_spots))) rfl 1 (by decide) hw0 (fun _ h9 => h9) rfl dX2_becomeGround_41 ?_
    refine lv_iload_n hx hb dX2_becomeGround_44 rfl (lv_at hl 1 rfl) ?_
    obtain ⟨q15, hq15, hf⟩ := bd_some hf
    refine kr_S (st1 := [.long q15, .long (f_water &&& (q1 ^^^ (-1 : Int64))), .ref (ga g (1 + k))]) (va_runSN (As := [.int a1]) (rest := [.long (f_water &&& (q1 ^^^ (-1 : Int64))), .ref (ga g (1 + k))]) ⟨hx, hb, hml, hown, hts⟩ (ct_X6_bit l n a1 q15 hq15) (⟨va_cnB 1 hts gX2_becomeGround_X6_bit_n77 rfl rfl rfl (ml_X2_77 hNW) hw1 hn_X6_bit ⟨Nat.le_of_ble_eq_true rfl, Nat.le_of_ble_eq_true rfl⟩, hw2, trivial⟩) ⟨bl_N, pr_N rfl hNW⟩ rfl rfl hl.1 rfl (lv_room (Nat.le_of_ble_eq_true rfl)) dX2_becomeGround_45 ⟨Nat.le_refl _, Nat.le_refl _⟩) rfl (fun hn16 => ?_)
    refine lv_lor hx hb dX2_becomeGround_48 ?_
    refine va_put (D := g.1) (ci := 0) (v := .long ((f_water &&& (q1 ^^^ (-1 : Int64))) ||| q15)) (ty := .long) (C := RX2) (T := TX2) (N := 8) hx hb hts iwX2 tyX2 tyX2_ok nmX2 hown hK hP (cD hB.2.2.1 _) hS (1 + k) (e_pk hk (hL.1 _) (Q := (f_paths, (f_water &&& (q1 ^^^ (-1 : Int64))), (f_wall &&& (q3 ^^^ (-1 : Int64))), f_kind, f_place, f_facing, f_age, f_seeds, f_season, f_z, f_spots))) rfl 1 (by decide) hw0 (fun _ h9 => h9) rfl (tyX2_ok 1 (by decide)) rfl rfl (Nat.le_of_ble_eq_true rfl) dX2_becomeGround_49 (fun H locs hP _ hS => ?_)
    have hP : va_P g.1 vwCl (cw g (S (f_paths, ((f_water &&& (q1 ^^^ (-1 : Int64))) ||| q15), (f_wall &&& (q3 ^^^ (-1 : Int64))), f_kind, f_place, f_facing, f_age, f_seeds, f_season, f_z, f_spots))) H := w_eq (s_water (S := S) (P := (f_paths, (f_water &&& (q1 ^^^ (-1 : Int64))), (f_wall &&& (q3 ^^^ (-1 : Int64))), f_kind, f_place, f_facing, f_age, f_seeds, f_season, f_z, f_spots)) ((f_water &&& (q1 ^^^ (-1 : Int64))) ||| q15) hk hL) hP
    refine lv_goto (tgt := 73) hx hb dX2_becomeGround_52 (by decide) ?_
    refine lv_iload_n hx hb dX2_becomeGround_73 rfl (lv_at hl 2 rfl) ?_
    refine lv_if_eq (tgt := 86) hx hb dX2_becomeGround_74 (by decide) (fun hc17 => ?_) (fun hc17 => ?_)
    · have hf := (if_pos hc17).symm.trans hf
      have hres : (f_paths, ((f_water &&& (q1 ^^^ (-1 : Int64))) ||| q15), (f_wall &&& (q3 ^^^ (-1 : Int64)))) = res := (Option.some.inj hf)
      have hP := w_eq (congrArg (fun z => cw g (S (z.1, z.2.1, z.2.2, f_kind, f_place, f_facing, f_age, f_seeds, f_season, f_z, f_spots))) hres) hP
      exact W.vret hx hb hr (fun t ht hW => ⟨rfl, trivial, by rw [ht]; exact hP, hS.F ht⟩) hS.2.2 dX2_becomeGround_86
    · have hf := (if_neg hc17).symm.trans hf
      refine lv_aload_n hx hb dX2_becomeGround_77 rfl (lv_at hl 0 rfl) ?_
      refine va_get (D := g.1) (ci := 0) (v := .ref (ga g (16 + k))) (C := RX2) (T := TX2) (N := 8) hx hb hts iwX2 hown hK hP (1 + k) (e_pk hk (hL.1 _) (Q := (f_paths, ((f_water &&& (q1 ^^^ (-1 : Int64))) ||| q15), (f_wall &&& (q3 ^^^ (-1 : Int64))), f_kind, f_place, f_facing, f_age, f_seeds, f_season, f_z, f_spots))) rfl 0 (by decide) hw5 (fun _ h9 => h9) rfl dX2_becomeGround_78 ?_
      refine lv_iload_n hx hb dX2_becomeGround_81 rfl (lv_at hl 1 rfl) ?_
      refine lv_iconst (v := (0 : Int32)) hx hb dX2_becomeGround_82 (by decide) ?_
      obtain ⟨q18, hq18, hf⟩ := bd_some hf
      refine kr_W (st1 := []) (va_runSN (As := [.ref (ga g (16 + k)), .int a1, .int (0 : Int32)]) (rest := []) ⟨hx, hb, hml, hown, hts⟩ (ct_X6_put l n g (S (f_paths, ((f_water &&& (q1 ^^^ (-1 : Int64))) ||| q15), (f_wall &&& (q3 ^^^ (-1 : Int64))), f_kind, f_place, f_facing, f_age, f_seeds, f_season, f_z, f_spots)) (16 + k) 36 f_paths (e_pa hk (hL.1 _) (Q := (f_paths, ((f_water &&& (q1 ^^^ (-1 : Int64))) ||| q15), (f_wall &&& (q3 ^^^ (-1 : Int64))), f_kind, f_place, f_facing, f_age, f_seeds, f_season, f_z, f_spots))) a1 (0 : Int32) q18 hq18) (⟨va_cnB 3 hts gX2_becomeGround_X6_put_n83 rfl rfl rfl (ml_X2_83 hNW) hw1 hn_X6_put ⟨Nat.le_of_ble_eq_true rfl, Nat.le_of_ble_eq_true rfl⟩, hw6, trivial⟩) ⟨bl_C, pr_C rfl hB hP hS⟩ rfl rfl hl.1 rfl (lv_room (Nat.le_of_ble_eq_true rfl)) dX2_becomeGround_83 ⟨Nat.le_refl _, Nat.le_refl _⟩) hS rfl (fun hn19 H locs hP hS => ?_)
      have hP : va_P g.1 vwCl (cw g (S (q18, ((f_water &&& (q1 ^^^ (-1 : Int64))) ||| q15), (f_wall &&& (q3 ^^^ (-1 : Int64))), f_kind, f_place, f_facing, f_age, f_seeds, f_season, f_z, f_spots))) H := w_eq (s_paths (S := S) (P := (f_paths, ((f_water &&& (q1 ^^^ (-1 : Int64))) ||| q15), (f_wall &&& (q3 ^^^ (-1 : Int64))), f_kind, f_place, f_facing, f_age, f_seeds, f_season, f_z, f_spots)) q18 hk hL) hP
      have hres : (q18, ((f_water &&& (q1 ^^^ (-1 : Int64))) ||| q15), (f_wall &&& (q3 ^^^ (-1 : Int64)))) = res := (Option.some.inj hf)
      have hP := w_eq (congrArg (fun z => cw g (S (z.1, z.2.1, z.2.2, f_kind, f_place, f_facing, f_age, f_seeds, f_season, f_z, f_spots))) hres) hP
      exact W.vret hx hb hr (fun t ht hW => ⟨rfl, trivial, by rw [ht]; exact hP, hS.F ht⟩) hS.2.2 dX2_becomeGround_86
set_option maxHeartbeats 4000000 in
set_option maxRecDepth 100000 in
theorem ct_X6_ground (l : Launch) (n : Nat) (g : GC) (p0_paths : Nat → Int32) (p0_water : Int64) (p0_wall : Int64) (p0_kind : Nat → Int32) (p0_place : Nat → Int32) (p0_facing : Nat → Int32) (p0_age : Nat → Int32) (p0_seeds : Int32) (p0_season : Int32) (p0_z : Int32) (p0_spots : Nat → Int32) (p1_paths : Nat → Int32) (p1_water : Int64) (p1_wall : Int64) (p1_kind : Nat → Int32) (p1_place : Nat → Int32) (p1_facing : Nat → Int32) (p1_age : Nat → Int32) (p1_seeds : Int32) (p1_season : Int32) (p1_z : Int32) (p1_spots : Nat → Int32) (p2_paths : Nat → Int32) (p2_water : Int64) (p2_wall : Int64) (p2_kind : Nat → Int32) (p2_place : Nat → Int32) (p2_facing : Nat → Int32) (p2_age : Nat → Int32) (p2_seeds : Int32) (p2_season : Int32) (p2_z : Int32) (p2_spots : Nat → Int32) (t_bytes : Nat → Int32) (t_length : Int32) (t_sort : Int32) (t_start : Int32) (t_end : Int32) (t_value : Int32) (h_numbers : Nat → Nat → Int32) (h_bits : Nat → Int32) (h_size : Nat → Int32) (w_isKept : Int32) (w_told : Nat → Int32) (a1 : Int32) (a2 : Int32) (res : Int32 × (Nat → Int32) × Int64 × Int64 × (Nat → Int32)) (hf : fX6_ground n a1 a2 p0_paths p0_water p0_wall w_told = some res) : Met l yX6_ground wsX6_ground ({ frames := 2, cells := 0, slots := 0, locals := 44 }) (va_Pc [.ref (ga g 0), .int a1, .int a2] (cI g (pk3 (p0_paths, p0_water, p0_wall, p0_kind, p0_place, p0_facing, p0_age, p0_seeds, p0_season, p0_z, p0_spots) (p1_paths, p1_water, p1_wall, p1_kind, p1_place, p1_facing, p1_age, p1_seeds, p1_season, p1_z, p1_spots) (p2_paths, p2_water, p2_wall, p2_kind, p2_place, p2_facing, p2_age, p2_seeds, p2_season, p2_z, p2_spots), w_isKept, (t_bytes, t_length, t_sort, t_start, t_end, t_value), (h_numbers, h_bits, h_size), w_told))) (qW (some (.int res.1)) True g.1 (cw g (pk3 (res.2.1, res.2.2.1, res.2.2.2.1, p0_kind, p0_place, p0_facing, p0_age, p0_seeds, p0_season, p0_z, p0_spots) (p1_paths, p1_water, p1_wall, p1_kind, p1_place, p1_facing, p1_age, p1_seeds, p1_season, p1_z, p1_spots) (p2_paths, p2_water, p2_wall, p2_kind, p2_place, p2_facing, p2_age, p2_seeds, p2_season, p2_z, p2_spots), w_isKept, (t_bytes, t_length, t_sort, t_start, t_end, t_value), (h_numbers, h_bits, h_size), res.2.2.2.2)) (gA g)) 0 0 (gA g) := by
  refine Met.ofW (cc := cX6_ground) (maxL := 4) (ret := (some .int)) (by decide) rfl ?_
  intro p e s m args below meth c s₁ B hml hv
  obtain ⟨rfl, hI⟩ := hv
  have hx := B.exec
  have hb := B.bytes
  have hr := B.returns
  have hts := atoms_spec (ws := wsX6_ground) B.pre
  have hown : s.vm.findClass RX6 = some m.cls := findClass_of_methodNamed B.named
  have hlocks := B.notSynchronized
  have hP := hI.1
  have hB := hI.2
  have hK := hB.1
  have hNW := hB.2.1
  have hS : va_S (gA g) s.heap s.heap [] := va_S.rf
  have hw0 := hts (.fieldLink RX6 10 "SownPaths" "park" "LSownPaths$Park;") (by decide +kernel)
  have iwX6 : ∀ w ∈ wsX60, w ∈ wsX6_ground := fun w h => List.mem_cons_of_mem _ (List.mem_append_left _ (List.mem_append_right _ h))
  have hl := lv_entry ([.ref (ga g 0), .int a1, .int a2]) (n := 4) (Nat.le_of_ble_eq_true rfl)
  rw [lg_entry_eq]
  generalize (lg_sl ([.ref (ga g 0), .int a1, .int a2]) ++ List.replicate (4 - (lg_sl ([.ref (ga g 0), .int a1, .int a2])).length) Slot.unset).toArray = ls at hl ⊢
  have hl : lv_has ls 4 [(0, .ref (ga g 0)), (1, .int a1), (2, .int a2)] := hl
  unfold fX6_ground at hf
  refine lv_iload_n hx hb dX6_ground_0 rfl (lv_at hl 1 rfl) ?_
  obtain ⟨q1, hq1, hf⟩ := bd_some hf
  refine kr_S (st1 := [.int q1]) (va_runS (As := [.int a1]) (rest := []) ⟨hx, hb, hml, hown, hts⟩ (ct_X6_isCell l n a1 q1 hq1) (va_cwS 1 hts gX6_ground_X6_isCell rfl rfl rfl hn_X6_isCell ⟨Nat.le_of_ble_eq_true rfl, Nat.le_of_ble_eq_true rfl⟩) ⟨bl_N, pr_N rfl hNW⟩ rfl rfl hl.1 rfl (lv_room (Nat.le_of_ble_eq_true rfl)) dX6_ground_1 ⟨Nat.le_refl _, Nat.le_refl _⟩) rfl (fun hn2 => ?_)
  refine lv_if_eq (tgt := 16) hx hb dX6_ground_4 (by decide) (fun hc3 => ?_) (fun hc3 => ?_)
  · have hf := (if_pos hc3).symm.trans hf
    refine lv_aload_n hx hb dX6_ground_16 rfl (lv_at hl 0 rfl) ?_
    refine lv_iconst (v := (0 : Int32)) hx hb dX6_ground_17 (by decide) ?_
    obtain ⟨q4, hq4, hf⟩ := bd_some hf
    refine kr_W (st1 := [.int q4.1]) (va_runV (As := [.int (0 : Int32)]) (rest := []) ⟨hx, hb, hml, hown, hts⟩ (ct_X6_finding l n g p0_paths p0_water p0_wall p0_kind p0_place p0_facing p0_age p0_seeds p0_season p0_z p0_spots p1_paths p1_water p1_wall p1_kind p1_place p1_facing p1_age p1_seeds p1_season p1_z p1_spots p2_paths p2_water p2_wall p2_kind p2_place p2_facing p2_age p2_seeds p2_season p2_z p2_spots t_bytes t_length t_sort t_start t_end t_value h_numbers h_bits h_size w_isKept w_told (0 : Int32) q4 hq4) (cwV 1 hts gX6_ground_X6_finding rfl rfl rfl hd_X6_finding ⟨Nat.le_of_ble_eq_true rfl, Nat.le_of_ble_eq_true rfl⟩) ⟨bl_C, va_recv hK hP (ci := 4) (q0 := 0) rfl q_sp, pr_C rfl hB hP hS⟩ rfl rfl hl.1 rfl (lv_room (Nat.le_of_ble_eq_true rfl)) dX6_ground_18 ⟨Nat.le_refl _, Nat.le_refl _⟩) hS rfl (fun hn5 H locs hP hS => ?_)
    have hP : va_P g.1 vwCl (cw g (pk3 (p0_paths, p0_water, p0_wall, p0_kind, p0_place, p0_facing, p0_age, p0_seeds, p0_season, p0_z, p0_spots) (p1_paths, p1_water, p1_wall, p1_kind, p1_place, p1_facing, p1_age, p1_seeds, p1_season, p1_z, p1_spots) (p2_paths, p2_water, p2_wall, p2_kind, p2_place, p2_facing, p2_age, p2_seeds, p2_season, p2_z, p2_spots), w_isKept, (t_bytes, t_length, t_sort, t_start, t_end, t_value), (h_numbers, h_bits, h_size), q4.2)) H := hP
    have hres : (q4.1, p0_paths, p0_water, p0_wall, q4.2) = res := (Option.some.inj hf)
    have hP := w_eq (congrArg (fun z => cw g (pk3 (z.2.1, z.2.2.1, z.2.2.2.1, p0_kind, p0_place, p0_facing, p0_age, p0_seeds, p0_season, p0_z, p0_spots) (p1_paths, p1_water, p1_wall, p1_kind, p1_place, p1_facing, p1_age, p1_seeds, p1_season, p1_z, p1_spots) (p2_paths, p2_water, p2_wall, p2_kind, p2_place, p2_facing, p2_age, p2_seeds, p2_season, p2_z, p2_spots), w_isKept, (t_bytes, t_length, t_sort, t_start, t_end, t_value), (h_numbers, h_bits, h_size), z.2.2.2.2)) hres) hP
    exact W.iret (v := q4.1) hx hb hr (fun t ht hW => ⟨congrArg (fun z => Outcome.returned (some (Value.int z.1))) hres, trivial, by rw [ht]; exact hP, hS.F ht⟩) hS.2.2 dX6_ground_21
  · have hf := (if_neg hc3).symm.trans hf
    refine lv_iload_n hx hb dX6_ground_7 rfl (lv_at hl 2 rfl) ?_
    refine lv_iconst (v := (0 : Int32)) hx hb dX6_ground_8 (by decide) ?_
    refine lv_iconst (v := (2 : Int32)) hx hb dX6_ground_9 (by decide) ?_
    obtain ⟨q6, hq6, hf⟩ := bd_some hf
    refine kr_S (st1 := [.int q6]) (va_runS (As := [.int a2, .int (0 : Int32), .int (2 : Int32)]) (rest := []) ⟨hx, hb, hml, hown, hts⟩ (ct_X6_within l n a2 (0 : Int32) (2 : Int32) q6 hq6) (va_cwS 3 hts gX6_ground_X6_within rfl rfl rfl hn_X6_within ⟨Nat.le_of_ble_eq_true rfl, Nat.le_of_ble_eq_true rfl⟩) ⟨bl_N, pr_N rfl hNW⟩ rfl rfl hl.1 rfl (lv_room (Nat.le_of_ble_eq_true rfl)) dX6_ground_10 ⟨Nat.le_refl _, Nat.le_refl _⟩) rfl (fun hn7 => ?_)
    refine lv_if_ne (tgt := 22) hx hb dX6_ground_13 (by decide) (fun hc8 => ?_) (fun hc8 => ?_)
    · have hf := (if_neg hc8).symm.trans hf
      refine lv_aload_n hx hb dX6_ground_22 rfl (lv_at hl 0 rfl) ?_
      refine va_get (D := g.1) (ci := 4) (v := .ref (ga g (1 + 0))) (C := RX6) (T := TX6) (N := 7) hx hb hts iwX6 hown hK hP 0 q_sp rfl 0 (by decide) hw0 (fun _ h9 => h9) rfl dX6_ground_23 ?_
      refine lv_iload_n hx hb dX6_ground_26 rfl (lv_at hl 1 rfl) ?_
      obtain ⟨q9, hq9, hf⟩ := bd_some hf
      refine kr_S (st1 := [.int q9]) (va_runV (As := [.int a1]) (rest := []) ⟨hx, hb, hml, hown, hts⟩ (ct_X2_groundOf l n g (pk3 (p0_paths, p0_water, p0_wall, p0_kind, p0_place, p0_facing, p0_age, p0_seeds, p0_season, p0_z, p0_spots) (p1_paths, p1_water, p1_wall, p1_kind, p1_place, p1_facing, p1_age, p1_seeds, p1_season, p1_z, p1_spots) (p2_paths, p2_water, p2_wall, p2_kind, p2_place, p2_facing, p2_age, p2_seeds, p2_season, p2_z, p2_spots), w_isKept, (t_bytes, t_length, t_sort, t_start, t_end, t_value), (h_numbers, h_bits, h_size), w_told) 0 (by decide) p0_paths p0_water p0_wall p0_kind p0_place p0_facing p0_age p0_seeds p0_season p0_z p0_spots rfl a1 q9 hq9) (cwV 1 hts gX6_ground_X2_groundOf rfl rfl rfl hd_X2_groundOf ⟨Nat.le_of_ble_eq_true rfl, Nat.le_of_ble_eq_true rfl⟩) ⟨bl_C, va_recv hK hP (ci := 0) (q0 := (1 + 0)) rfl (e_pk (by decide) rfl (Q := (p0_paths, p0_water, p0_wall, p0_kind, p0_place, p0_facing, p0_age, p0_seeds, p0_season, p0_z, p0_spots))), pr_C rfl hB hP hS⟩ rfl rfl hl.1 rfl (lv_room (Nat.le_of_ble_eq_true rfl)) dX6_ground_27 ⟨Nat.le_refl _, Nat.le_refl _⟩) rfl (fun hn10 => ?_)
      refine lv_istore_n (lv' := [(3, .int q9), (0, .ref (ga g 0)), (1, .int a1), (2, .int a2)]) hx hb dX6_ground_30 rfl hl (by decide) rfl (fun ls hl => ?_)
      refine lv_aload_n hx hb dX6_ground_31 rfl (lv_at hl 1 rfl) ?_
      refine va_get (D := g.1) (ci := 4) (v := .ref (ga g (1 + 0))) (C := RX6) (T := TX6) (N := 7) hx hb hts iwX6 hown hK hP 0 q_sp rfl 0 (by decide) hw0 (fun _ h9 => h9) rfl dX6_ground_32 ?_
      refine lv_iload_n hx hb dX6_ground_35 rfl (lv_at hl 2 rfl) ?_
      refine lv_iload_n hx hb dX6_ground_36 rfl (lv_at hl 3 rfl) ?_
      obtain ⟨q11, hq11, hf⟩ := bd_some hf
      refine kr_W (st1 := []) (va_runV (As := [.int a1, .int a2]) (rest := []) ⟨hx, hb, hml, hown, hts⟩ (ct_X2_becomeGround l n g (fun P => (pk3 P (p1_paths, p1_water, p1_wall, p1_kind, p1_place, p1_facing, p1_age, p1_seeds, p1_season, p1_z, p1_spots) (p2_paths, p2_water, p2_wall, p2_kind, p2_place, p2_facing, p2_age, p2_seeds, p2_season, p2_z, p2_spots), w_isKept, (t_bytes, t_length, t_sort, t_start, t_end, t_value), (h_numbers, h_bits, h_size), w_told)) 0 (by decide) zP0 p0_paths p0_water p0_wall p0_kind p0_place p0_facing p0_age p0_seeds p0_season p0_z p0_spots a1 a2 q11 hq11) (cwV 2 hts gX6_ground_X2_becomeGround rfl rfl rfl hd_X2_becomeGround ⟨Nat.le_of_ble_eq_true rfl, Nat.le_of_ble_eq_true rfl⟩) ⟨bl_C, va_recv hK hP (ci := 0) (q0 := (1 + 0)) rfl (e_pk (by decide) rfl (Q := (p0_paths, p0_water, p0_wall, p0_kind, p0_place, p0_facing, p0_age, p0_seeds, p0_season, p0_z, p0_spots))), pr_C rfl hB hP hS⟩ rfl rfl hl.1 rfl (lv_room (Nat.le_of_ble_eq_true rfl)) dX6_ground_37 ⟨Nat.le_refl _, Nat.le_refl _⟩) hS rfl (fun hn12 H locs hP hS => ?_)
      have hP : va_P g.1 vwCl (cw g (pk3 (q11.1, q11.2.1, q11.2.2, p0_kind, p0_place, p0_facing, p0_age, p0_seeds, p0_season, p0_z, p0_spots) (p1_paths, p1_water, p1_wall, p1_kind, p1_place, p1_facing, p1_age, p1_seeds, p1_season, p1_z, p1_spots) (p2_paths, p2_water, p2_wall, p2_kind, p2_place, p2_facing, p2_age, p2_seeds, p2_season, p2_z, p2_spots), w_isKept, (t_bytes, t_length, t_sort, t_start, t_end, t_value), (h_numbers, h_bits, h_size), w_told)) H := hP
      refine lv_iload_n hx hb dX6_ground_40 rfl (lv_at hl 0 rfl) ?_
      have hres : (q9, q11.1, q11.2.1, q11.2.2, w_told) = res := (Option.some.inj hf)
      have hP := w_eq (congrArg (fun z => cw g (pk3 (z.2.1, z.2.2.1, z.2.2.2.1, p0_kind, p0_place, p0_facing, p0_age, p0_seeds, p0_season, p0_z, p0_spots) (p1_paths, p1_water, p1_wall, p1_kind, p1_place, p1_facing, p1_age, p1_seeds, p1_season, p1_z, p1_spots) (p2_paths, p2_water, p2_wall, p2_kind, p2_place, p2_facing, p2_age, p2_seeds, p2_season, p2_z, p2_spots), w_isKept, (t_bytes, t_length, t_sort, t_start, t_end, t_value), (h_numbers, h_bits, h_size), z.2.2.2.2)) hres) hP
      exact W.iret (v := q9) hx hb hr (fun t ht hW => ⟨congrArg (fun z => Outcome.returned (some (Value.int z.1))) hres, trivial, by rw [ht]; exact hP, hS.F ht⟩) hS.2.2 dX6_ground_41
    · have hf := (if_pos hc8).symm.trans hf
      refine lv_aload_n hx hb dX6_ground_16 rfl (lv_at hl 0 rfl) ?_
      refine lv_iconst (v := (0 : Int32)) hx hb dX6_ground_17 (by decide) ?_
      obtain ⟨q13, hq13, hf⟩ := bd_some hf
      refine kr_W (st1 := [.int q13.1]) (va_runV (As := [.int (0 : Int32)]) (rest := []) ⟨hx, hb, hml, hown, hts⟩ (ct_X6_finding l n g p0_paths p0_water p0_wall p0_kind p0_place p0_facing p0_age p0_seeds p0_season p0_z p0_spots p1_paths p1_water p1_wall p1_kind p1_place p1_facing p1_age p1_seeds p1_season p1_z p1_spots p2_paths p2_water p2_wall p2_kind p2_place p2_facing p2_age p2_seeds p2_season p2_z p2_spots t_bytes t_length t_sort t_start t_end t_value h_numbers h_bits h_size w_isKept w_told (0 : Int32) q13 hq13) (cwV 1 hts gX6_ground_X6_finding rfl rfl rfl hd_X6_finding ⟨Nat.le_of_ble_eq_true rfl, Nat.le_of_ble_eq_true rfl⟩) ⟨bl_C, va_recv hK hP (ci := 4) (q0 := 0) rfl q_sp, pr_C rfl hB hP hS⟩ rfl rfl hl.1 rfl (lv_room (Nat.le_of_ble_eq_true rfl)) dX6_ground_18 ⟨Nat.le_refl _, Nat.le_refl _⟩) hS rfl (fun hn14 H locs hP hS => ?_)
      have hP : va_P g.1 vwCl (cw g (pk3 (p0_paths, p0_water, p0_wall, p0_kind, p0_place, p0_facing, p0_age, p0_seeds, p0_season, p0_z, p0_spots) (p1_paths, p1_water, p1_wall, p1_kind, p1_place, p1_facing, p1_age, p1_seeds, p1_season, p1_z, p1_spots) (p2_paths, p2_water, p2_wall, p2_kind, p2_place, p2_facing, p2_age, p2_seeds, p2_season, p2_z, p2_spots), w_isKept, (t_bytes, t_length, t_sort, t_start, t_end, t_value), (h_numbers, h_bits, h_size), q13.2)) H := hP
      have hres : (q13.1, p0_paths, p0_water, p0_wall, q13.2) = res := (Option.some.inj hf)
      have hP := w_eq (congrArg (fun z => cw g (pk3 (z.2.1, z.2.2.1, z.2.2.2.1, p0_kind, p0_place, p0_facing, p0_age, p0_seeds, p0_season, p0_z, p0_spots) (p1_paths, p1_water, p1_wall, p1_kind, p1_place, p1_facing, p1_age, p1_seeds, p1_season, p1_z, p1_spots) (p2_paths, p2_water, p2_wall, p2_kind, p2_place, p2_facing, p2_age, p2_seeds, p2_season, p2_z, p2_spots), w_isKept, (t_bytes, t_length, t_sort, t_start, t_end, t_value), (h_numbers, h_bits, h_size), z.2.2.2.2)) hres) hP
      exact W.iret (v := q13.1) hx hb hr (fun t ht hW => ⟨congrArg (fun z => Outcome.returned (some (Value.int z.1))) hres, trivial, by rw [ht]; exact hP, hS.F ht⟩) hS.2.2 dX6_ground_21
set_option maxHeartbeats 4000000 in
set_option maxRecDepth 100000 in
theorem ct_X2_pathOf (l : Launch) (n : Nat) (g : GC) (σ : CS) (k : Nat) (hk : k < 3) (f_paths : Nat → Int32) (f_water : Int64) (f_wall : Int64) (f_kind : Nat → Int32) (f_place : Nat → Int32) (f_facing : Nat → Int32) (f_age : Nat → Int32) (f_seeds : Int32) (f_season : Int32) (f_z : Int32) (f_spots : Nat → Int32) (he : σ.1 k = (f_paths, f_water, f_wall, f_kind, f_place, f_facing, f_age, f_seeds, f_season, f_z, f_spots)) (a1 : Int32) (res : Int32) (hf : fX2_pathOf n a1 f_paths = some res) : Met l yX2_pathOf wsX2_pathOf ({ frames := 1, cells := 0, slots := 0, locals := 21 }) (va_Pc [.ref (ga g (1 + k)), .int a1] (cI g σ)) (qS (some (.int res)) True) 0 0 (fun _ => False) := by
  refine Met.ofW (cc := cX2_pathOf) (maxL := 2) (ret := (some .int)) (by decide) rfl ?_
  intro p e s m args below meth c s₁ B hml hv
  obtain ⟨rfl, hI⟩ := hv
  have hx := B.exec
  have hb := B.bytes
  have hr := B.returns
  have hts := atoms_spec (ws := wsX2_pathOf) B.pre
  have hown : s.vm.findClass RX2 = some m.cls := findClass_of_methodNamed B.named
  have hlocks := B.notSynchronized
  have hP := hI.1
  have hB := hI.2
  have hK := hB.1
  have hNW := hB.2.1
  have hS : va_S (gA g) s.heap s.heap [] := va_S.rf
  have hw0 := hts (.fieldLink RX2 9 "SownPaths$Park" "paths" "[I") (by decide +kernel)
  have hw1 := hts (.initialized RX6) (by decide +kernel)
  have hw2 := hts (.static yX6_at) (by decide +kernel)
  have iwX2 : ∀ w ∈ wsX20, w ∈ wsX2_pathOf := fun w h => List.mem_cons_of_mem _ (List.mem_append_right _ h)
  have hl := lv_entry ([.ref (ga g (1 + k)), .int a1]) (n := 2) (Nat.le_of_ble_eq_true rfl)
  rw [lg_entry_eq]
  generalize (lg_sl ([.ref (ga g (1 + k)), .int a1]) ++ List.replicate (2 - (lg_sl ([.ref (ga g (1 + k)), .int a1])).length) Slot.unset).toArray = ls at hl ⊢
  have hl : lv_has ls 2 [(0, .ref (ga g (1 + k))), (1, .int a1)] := hl
  unfold fX2_pathOf at hf
  refine lv_aload_n hx hb dX2_pathOf_0 rfl (lv_at hl 0 rfl) ?_
  refine va_get (D := g.1) (ci := 0) (v := .ref (ga g (16 + k))) (C := RX2) (T := TX2) (N := 8) hx hb hts iwX2 hown hK hP (1 + k) (e_pk hk he (Q := (f_paths, f_water, f_wall, f_kind, f_place, f_facing, f_age, f_seeds, f_season, f_z, f_spots))) rfl 0 (by decide) hw0 (fun _ h9 => h9) rfl dX2_pathOf_1 ?_
  refine lv_iload_n hx hb dX2_pathOf_4 rfl (lv_at hl 1 rfl) ?_
  obtain ⟨q1, hq1, hf⟩ := bd_some hf
  refine kr_S (st1 := [.int q1]) (va_runSN (As := [.ref (ga g (16 + k)), .int a1]) (rest := []) ⟨hx, hb, hml, hown, hts⟩ (ct_X6_at l n g σ (16 + k) 36 f_paths (e_pa hk he (Q := (f_paths, f_water, f_wall, f_kind, f_place, f_facing, f_age, f_seeds, f_season, f_z, f_spots))) a1 q1 hq1) (⟨va_cnB 2 hts gX2_pathOf_X6_at_n95 rfl rfl rfl (ml_X2_95 hNW) hw1 hn_X6_at ⟨Nat.le_of_ble_eq_true rfl, Nat.le_of_ble_eq_true rfl⟩, hw2, trivial⟩) ⟨bl_C, pr_C rfl hB hP hS⟩ rfl rfl hl.1 rfl (lv_room (Nat.le_of_ble_eq_true rfl)) dX2_pathOf_5 ⟨Nat.le_refl _, Nat.le_refl _⟩) rfl (fun hn2 => ?_)
  have hres : q1 = res := (Option.some.inj hf)
  exact W.iret (v := q1) hx hb hr (fun t ht hW => ⟨congrArg (fun z => Outcome.returned (some (Value.int z))) hres, trivial, ht⟩) t_nil dX2_pathOf_8
set_option maxHeartbeats 4000000 in
set_option maxRecDepth 100000 in
theorem ct_X0_neighbours (l : Launch) (n : Nat) (a0 : Int64) (res : Int64) (hf : fX0_neighbours n a0 = some res) : Met l yX0_neighbours wsX0_neighbours ({ frames := 0, cells := 0, slots := 0, locals := 0 }) (va_Pc [.long a0] NW) (qS (some (.long res)) True) 0 0 (fun _ => False) := by
  refine Met.ofW (cc := cX0_neighbours) (maxL := 4) (ret := (some .long)) (by decide) rfl ?_
  intro p e s m args below meth c s₁ B hml hv
  obtain ⟨rfl, hI⟩ := hv
  have hx := B.exec
  have hb := B.bytes
  have hr := B.returns
  have hts := atoms_spec (ws := wsX0_neighbours) B.pre
  have hown : s.vm.findClass RX0 = some m.cls := findClass_of_methodNamed B.named
  have hlocks := B.notSynchronized
  have hNW : NW s := hI
  have hw0 := hts (.constantLong RX0 11 (-34905131041)) (by decide +kernel)
  have hw1 := hts (.constantLong RX0 13 (-1090785346)) (by decide +kernel)
  have hw2 := hts (.constantLong RX0 15 (68719476735)) (by decide +kernel)
  have hl := lv_entry ([.long a0]) (n := 4) (Nat.le_of_ble_eq_true rfl)
  rw [lg_entry_eq]
  generalize (lg_sl ([.long a0]) ++ List.replicate (4 - (lg_sl ([.long a0])).length) Slot.unset).toArray = ls at hl ⊢
  have hl : lv_has ls 4 [(0, .long a0)] := hl
  unfold fX0_neighbours at hf
  refine lv_lload_n hx hb dX0_neighbours_0 rfl (lv_at hl 0 rfl) ?_
  refine lv_ldc2 (v := (-34905131041 : Int64)) hx hb hown hw0 dX0_neighbours_1 ?_
  refine lv_land hx hb dX0_neighbours_4 ?_
  refine lv_iconst (v := (1 : Int32)) hx hb dX0_neighbours_5 (by decide) ?_
  refine lv_lshl (v := ((a0 &&& (-34905131041 : Int64)) <<< ((1 : Int32).toInt64 &&& 63))) hx hb dX0_neighbours_6 rfl ?_
  refine lv_lload_n hx hb dX0_neighbours_7 rfl (lv_at hl 0 rfl) ?_
  refine lv_ldc2 (v := (-1090785346 : Int64)) hx hb hown hw1 dX0_neighbours_8 ?_
  refine lv_land hx hb dX0_neighbours_11 ?_
  refine lv_iconst (v := (1 : Int32)) hx hb dX0_neighbours_12 (by decide) ?_
  refine lv_lushr (v := (((a0 &&& (-1090785346 : Int64)).toUInt64 >>> ((1 : Int32).toInt64.toUInt64 &&& Int64.toUInt64 63)).toInt64)) hx hb dX0_neighbours_13 rfl ?_
  refine lv_lor hx hb dX0_neighbours_14 ?_
  refine lv_lstore_n (lv' := [(2, .long (((a0 &&& (-34905131041 : Int64)) <<< ((1 : Int32).toInt64 &&& 63)) ||| (((a0 &&& (-1090785346 : Int64)).toUInt64 >>> ((1 : Int32).toInt64.toUInt64 &&& Int64.toUInt64 63)).toInt64))), (0, .long a0)]) hx hb dX0_neighbours_15 rfl hl (by decide) rfl (fun ls hl => ?_)
  refine lv_lload_n hx hb dX0_neighbours_16 rfl (lv_at hl 1 rfl) ?_
  refine lv_bipush (v := (6 : Int32)) hx hb dX0_neighbours_17 (by decide) ?_
  refine lv_lshl (v := (a0 <<< ((6 : Int32).toInt64 &&& 63))) hx hb dX0_neighbours_19 rfl ?_
  refine lv_lload_n hx hb dX0_neighbours_20 rfl (lv_at hl 1 rfl) ?_
  refine lv_bipush (v := (6 : Int32)) hx hb dX0_neighbours_21 (by decide) ?_
  refine lv_lushr (v := ((a0.toUInt64 >>> ((6 : Int32).toInt64.toUInt64 &&& Int64.toUInt64 63)).toInt64)) hx hb dX0_neighbours_23 rfl ?_
  refine lv_lor hx hb dX0_neighbours_24 ?_
  refine lv_lload_n hx hb dX0_neighbours_25 rfl (lv_at hl 0 rfl) ?_
  refine lv_lor hx hb dX0_neighbours_26 ?_
  refine lv_ldc2 (v := (68719476735 : Int64)) hx hb hown hw2 dX0_neighbours_27 ?_
  refine lv_land hx hb dX0_neighbours_30 ?_
  have hres : ((((a0 <<< ((6 : Int32).toInt64 &&& 63)) ||| ((a0.toUInt64 >>> ((6 : Int32).toInt64.toUInt64 &&& Int64.toUInt64 63)).toInt64)) ||| (((a0 &&& (-34905131041 : Int64)) <<< ((1 : Int32).toInt64 &&& 63)) ||| (((a0 &&& (-1090785346 : Int64)).toUInt64 >>> ((1 : Int32).toInt64.toUInt64 &&& Int64.toUInt64 63)).toInt64))) &&& (68719476735 : Int64)) = res := (Option.some.inj hf)
  exact W.lret (v := ((((a0 <<< ((6 : Int32).toInt64 &&& 63)) ||| ((a0.toUInt64 >>> ((6 : Int32).toInt64.toUInt64 &&& Int64.toUInt64 63)).toInt64)) ||| (((a0 &&& (-34905131041 : Int64)) <<< ((1 : Int32).toInt64 &&& 63)) ||| (((a0 &&& (-1090785346 : Int64)).toUInt64 >>> ((1 : Int32).toInt64.toUInt64 &&& Int64.toUInt64 63)).toInt64))) &&& (68719476735 : Int64))) hx hb hr (fun t ht hW => ⟨congrArg (fun z => Outcome.returned (some (Value.long z))) hres, trivial, ht⟩) t_nil dX0_neighbours_31
set_option maxHeartbeats 4000000 in
set_option maxRecDepth 100000 in
theorem ct_X2_pathSet (l : Launch) (n : Nat) (g : GC) (σ : CS) (k : Nat) (hk : k < 3) (f_paths : Nat → Int32) (f_water : Int64) (f_wall : Int64) (f_kind : Nat → Int32) (f_place : Nat → Int32) (f_facing : Nat → Int32) (f_age : Nat → Int32) (f_seeds : Int32) (f_season : Int32) (f_z : Int32) (f_spots : Nat → Int32) (he : σ.1 k = (f_paths, f_water, f_wall, f_kind, f_place, f_facing, f_age, f_seeds, f_season, f_z, f_spots)) (res : Int64) (hf : fX2_pathSet n f_paths = some res) : Met l yX2_pathSet wsX2_pathSet ({ frames := 1, cells := 0, slots := 0, locals := 20 }) (va_Pc [.ref (ga g (1 + k))] (cI g σ)) (qS (some (.long res)) True) 0 0 (fun _ => False) := by
  refine Met.ofW (cc := cX2_pathSet) (maxL := 4) (ret := (some .long)) (by decide) rfl ?_
  intro p e s m args below meth c s₁ B hml hv
  obtain ⟨rfl, hI⟩ := hv
  have hx := B.exec
  have hb := B.bytes
  have hr := B.returns
  have hts := atoms_spec (ws := wsX2_pathSet) B.pre
  have hown : s.vm.findClass RX2 = some m.cls := findClass_of_methodNamed B.named
  have hlocks := B.notSynchronized
  have hP := hI.1
  have hB := hI.2
  have hK := hB.1
  have hNW := hB.2.1
  have hS : va_S (gA g) s.heap s.heap [] := va_S.rf
  have hw0 := hts (.fieldLink RX2 9 "SownPaths$Park" "paths" "[I") (by decide +kernel)
  have hw1 := hts (.initialized RX6) (by decide +kernel)
  have hw2 := hts (.static yX6_bit) (by decide +kernel)
  have iwX2 : ∀ w ∈ wsX20, w ∈ wsX2_pathSet := fun w h => List.mem_cons_of_mem _ (List.mem_append_right _ h)
  have hl := lv_entry ([.ref (ga g (1 + k))]) (n := 4) (Nat.le_of_ble_eq_true rfl)
  rw [lg_entry_eq]
  generalize (lg_sl ([.ref (ga g (1 + k))]) ++ List.replicate (4 - (lg_sl ([.ref (ga g (1 + k))])).length) Slot.unset).toArray = ls at hl ⊢
  have hl : lv_has ls 4 [(0, .ref (ga g (1 + k)))] := hl
  unfold fX2_pathSet at hf
  refine lv_lconst (v := (0 : Int64)) hx hb dX2_pathSet_0 (by decide) ?_
  refine lv_lstore_n (lv' := [(1, .long (0 : Int64)), (0, .ref (ga g (1 + k)))]) hx hb dX2_pathSet_1 rfl hl (by decide) rfl (fun ls hl => ?_)
  refine lv_iconst (v := (0 : Int32)) hx hb dX2_pathSet_2 (by decide) ?_
  refine lv_istore_n (lv' := [(3, .int (0 : Int32)), (1, .long (0 : Int64)), (0, .ref (ga g (1 + k)))]) hx hb dX2_pathSet_3 rfl hl (by decide) rfl (fun ls hl => ?_)
  refine lp_run hf (fun s1 => ∀ (ls : Array Slot), lv_has ls 4 [(0, .ref (ga g (1 + k))), (1, .long s1.1), (3, .int s1.2)] → W p l e (headSpec wsX2_pathSet ({ frames := 1, cells := 0, slots := 0, locals := 20 })).room s m ([.ref (ga g (1 + k))] : List Value).toArray below meth c s.heap [] 0 0 (MQ below (qS (some (.long res)) True) ([.ref (ga g (1 + k))] : List Value).toArray s 0 0 (fun _ => False)) (F0 m 4 ls [])) (fun v2 => ∀ (ls : Array Slot), lv_has ls 4 [(1, .long v2.1)] → W p l e (headSpec wsX2_pathSet ({ frames := 1, cells := 0, slots := 0, locals := 20 })).room s m ([.ref (ga g (1 + k))] : List Value).toArray below meth c s.heap [] 0 0 (MQ below (qS (some (.long res)) True) ([.ref (ga g (1 + k))] : List Value).toArray s 0 0 (fun _ => False)) (F0 m 35 ls [])) ?_ ?_ _ (lv_sub hl [2, 1, 0] rfl)
  · intro v2 hf ls hl
    refine lv_lload_n hx hb dX2_pathSet_35 rfl (lv_at hl 0 rfl) ?_
    have hres : v2.1 = res := (Option.some.inj hf)
    exact W.lret (v := v2.1) hx hb hr (fun t ht hW => ⟨congrArg (fun z => Outcome.returned (some (Value.long z))) hres, trivial, ht⟩) t_nil dX2_pathSet_36
  · intro s1 r1 hf hback1 hexit1 ls hl
    refine lv_iload_n hx hb dX2_pathSet_4 rfl (lv_at hl 2 rfl) ?_
    refine lv_aload_n hx hb dX2_pathSet_5 rfl (lv_at hl 0 rfl) ?_
    refine va_get (D := g.1) (ci := 0) (v := .ref (ga g (16 + k))) (C := RX2) (T := TX2) (N := 8) hx hb hts iwX2 hown hK hP (1 + k) (e_pk hk he (Q := (f_paths, f_water, f_wall, f_kind, f_place, f_facing, f_age, f_seeds, f_season, f_z, f_spots))) rfl 0 (by decide) hw0 (fun _ h9 => h9) rfl dX2_pathSet_6 ?_
    refine va_alen (v := (36 : Int32)) hx hb hK hP (16 + k) 0 (e_pa hk he (Q := (f_paths, f_water, f_wall, f_kind, f_place, f_facing, f_age, f_seeds, f_season, f_z, f_spots))) rfl rfl dX2_pathSet_9 ?_
    refine lv_icmp_ge (tgt := 35) hx hb dX2_pathSet_10 (by decide) (fun hc3 => ?_) (fun hc3 => ?_)
    · have hf := (if_pos hc3).symm.trans hf
      exact hexit1 (s1.1, s1.2) (Option.some.inj hf).symm ls (lv_sub hl [1] rfl)
    · have hf := (if_neg hc3).symm.trans hf
      refine lv_aload_n hx hb dX2_pathSet_13 rfl (lv_at hl 0 rfl) ?_
      refine va_get (D := g.1) (ci := 0) (v := .ref (ga g (16 + k))) (C := RX2) (T := TX2) (N := 8) hx hb hts iwX2 hown hK hP (1 + k) (e_pk hk he (Q := (f_paths, f_water, f_wall, f_kind, f_place, f_facing, f_age, f_seeds, f_season, f_z, f_spots))) rfl 0 (by decide) hw0 (fun _ h9 => h9) rfl dX2_pathSet_14 ?_
      refine lv_iload_n hx hb dX2_pathSet_17 rfl (lv_at hl 2 rfl) ?_
      obtain ⟨hg4, hf⟩ := gd_some hf
      refine va_iald (f := f_paths) hx hb hK hP (16 + k) 0 (e_pa hk he (Q := (f_paths, f_water, f_wall, f_kind, f_place, f_facing, f_age, f_seeds, f_season, f_z, f_spots))) rfl hg4 dX2_pathSet_18 ?_
      refine lv_if_le (tgt := 29) hx hb dX2_pathSet_19 (by decide) (fun hc5 => ?_) (fun hc5 => ?_)
      · have hf := (if_pos hc5).symm.trans hf
        refine lv_iinc (v := (s1.2 + (1 : Int32))) (lv' := [(3, .int (s1.2 + (1 : Int32))), (0, .ref (ga g (1 + k))), (1, .long s1.1)]) hx hb dX2_pathSet_29 hl (k := 2) rfl (congrArg (fun y => s1.2 + y) (by decide : Int32.ofInt (1) = (1 : Int32))) (by decide) rfl (fun ls hl => ?_)
        refine lv_goto (tgt := 4) hx hb dX2_pathSet_32 (by decide) ?_
        exact hback1 _ (Option.some.inj hf).symm ls (lv_sub hl [1, 2, 0] rfl)
      · have hf := (if_neg hc5).symm.trans hf
        refine lv_lload_n hx hb dX2_pathSet_22 rfl (lv_at hl 1 rfl) ?_
        refine lv_iload_n hx hb dX2_pathSet_23 rfl (lv_at hl 2 rfl) ?_
        obtain ⟨q6, hq6, hf⟩ := bd_some hf
        refine kr_S (st1 := [.long q6, .long s1.1]) (va_runSN (As := [.int s1.2]) (rest := [.long s1.1]) ⟨hx, hb, hml, hown, hts⟩ (ct_X6_bit l n s1.2 q6 hq6) (⟨va_cnB 1 hts gX2_pathSet_X6_bit_n77 rfl rfl rfl (ml_X2_77 hNW) hw1 hn_X6_bit ⟨Nat.le_of_ble_eq_true rfl, Nat.le_of_ble_eq_true rfl⟩, hw2, trivial⟩) ⟨bl_N, pr_N rfl hNW⟩ rfl rfl hl.1 rfl (lv_room (Nat.le_of_ble_eq_true rfl)) dX2_pathSet_24 ⟨Nat.le_refl _, Nat.le_refl _⟩) rfl (fun hn7 => ?_)
        refine lv_lor hx hb dX2_pathSet_27 ?_
        refine lv_lstore_n (lv' := [(1, .long (s1.1 ||| q6)), (0, .ref (ga g (1 + k))), (3, .int s1.2)]) hx hb dX2_pathSet_28 rfl hl (by decide) rfl (fun ls hl => ?_)
        refine lv_iinc (v := (s1.2 + (1 : Int32))) (lv' := [(3, .int (s1.2 + (1 : Int32))), (1, .long (s1.1 ||| q6)), (0, .ref (ga g (1 + k)))]) hx hb dX2_pathSet_29 hl (k := 2) rfl (congrArg (fun y => s1.2 + y) (by decide : Int32.ofInt (1) = (1 : Int32))) (by decide) rfl (fun ls hl => ?_)
        refine lv_goto (tgt := 4) hx hb dX2_pathSet_32 (by decide) ?_
        exact hback1 _ (Option.some.inj hf).symm ls (lv_sub hl [2, 1, 0] rfl)
set_option maxHeartbeats 4000000 in
set_option maxRecDepth 100000 in
theorem ct_J13_bitCount_95d88 (l : Launch) (n : Nat) (a0 : Int64) (res : Int32) (hf : fJ13_bitCount_95d88 n a0 = some res) : Met l yJ13_bitCount_95d88 wsJ13_bitCount_95d88 ({ frames := 0, cells := 0, slots := 0, locals := 0 }) (va_Pc [.long a0] NW) (qS (some (.int res)) True) 0 0 (fun _ => False) := by
  refine Met.ofW (cc := cJ13_bitCount_95d88) (maxL := 2) (ret := (some .int)) (by decide) rfl ?_
  intro p e s m args below meth c s₁ B hml hv
  obtain ⟨rfl, hI⟩ := hv
  have hx := B.exec
  have hb := B.bytes
  have hr := B.returns
  have hts := atoms_spec (ws := wsJ13_bitCount_95d88) B.pre
  have hown : s.vm.findClass RJ13 = some m.cls := findClass_of_methodNamed B.named
  have hlocks := B.notSynchronized
  have hNW : NW s := hI
  have hw0 := hts (.constantLong RJ13 314 (6148914691236517205)) (by decide +kernel)
  have hw1 := hts (.constantLong RJ13 316 (3689348814741910323)) (by decide +kernel)
  have hw2 := hts (.constantLong RJ13 318 (1085102592571150095)) (by decide +kernel)
  have hl := lv_entry ([.long a0]) (n := 2) (Nat.le_of_ble_eq_true rfl)
  rw [lg_entry_eq]
  generalize (lg_sl ([.long a0]) ++ List.replicate (2 - (lg_sl ([.long a0])).length) Slot.unset).toArray = ls at hl ⊢
  have hl : lv_has ls 2 [(0, .long a0)] := hl
  unfold fJ13_bitCount_95d88 at hf
  refine lv_lload_n hx hb dJ13_bitCount_95d88_0 rfl (lv_at hl 0 rfl) ?_
  refine lv_lload_n hx hb dJ13_bitCount_95d88_1 rfl (lv_at hl 0 rfl) ?_
  refine lv_iconst (v := (1 : Int32)) hx hb dJ13_bitCount_95d88_2 (by decide) ?_
  refine lv_lushr (v := ((a0.toUInt64 >>> ((1 : Int32).toInt64.toUInt64 &&& Int64.toUInt64 63)).toInt64)) hx hb dJ13_bitCount_95d88_3 rfl ?_
  refine lv_ldc2 (v := (6148914691236517205 : Int64)) hx hb hown hw0 dJ13_bitCount_95d88_4 ?_
  refine lv_land hx hb dJ13_bitCount_95d88_7 ?_
  refine lv_lsub hx hb dJ13_bitCount_95d88_8 ?_
  refine lv_lstore_n (lv' := [(0, .long (a0 - (((a0.toUInt64 >>> ((1 : Int32).toInt64.toUInt64 &&& Int64.toUInt64 63)).toInt64) &&& (6148914691236517205 : Int64))))]) hx hb dJ13_bitCount_95d88_9 rfl hl (by decide) rfl (fun ls hl => ?_)
  refine lv_lload_n hx hb dJ13_bitCount_95d88_10 rfl (lv_at hl 0 rfl) ?_
  refine lv_ldc2 (v := (3689348814741910323 : Int64)) hx hb hown hw1 dJ13_bitCount_95d88_11 ?_
  refine lv_land hx hb dJ13_bitCount_95d88_14 ?_
  refine lv_lload_n hx hb dJ13_bitCount_95d88_15 rfl (lv_at hl 0 rfl) ?_
  refine lv_iconst (v := (2 : Int32)) hx hb dJ13_bitCount_95d88_16 (by decide) ?_
  refine lv_lushr (v := (((a0 - (((a0.toUInt64 >>> ((1 : Int32).toInt64.toUInt64 &&& Int64.toUInt64 63)).toInt64) &&& (6148914691236517205 : Int64))).toUInt64 >>> ((2 : Int32).toInt64.toUInt64 &&& Int64.toUInt64 63)).toInt64)) hx hb dJ13_bitCount_95d88_17 rfl ?_
  refine lv_ldc2 (v := (3689348814741910323 : Int64)) hx hb hown hw1 dJ13_bitCount_95d88_18 ?_
  refine lv_land hx hb dJ13_bitCount_95d88_21 ?_
  refine lv_ladd hx hb dJ13_bitCount_95d88_22 ?_
  refine lv_lstore_n (lv' := [(0, .long (((a0 - (((a0.toUInt64 >>> ((1 : Int32).toInt64.toUInt64 &&& Int64.toUInt64 63)).toInt64) &&& (6148914691236517205 : Int64))) &&& (3689348814741910323 : Int64)) + ((((a0 - (((a0.toUInt64 >>> ((1 : Int32).toInt64.toUInt64 &&& Int64.toUInt64 63)).toInt64) &&& (6148914691236517205 : Int64))).toUInt64 >>> ((2 : Int32).toInt64.toUInt64 &&& Int64.toUInt64 63)).toInt64) &&& (3689348814741910323 : Int64))))]) hx hb dJ13_bitCount_95d88_23 rfl hl (by decide) rfl (fun ls hl => ?_)
  refine lv_lload_n hx hb dJ13_bitCount_95d88_24 rfl (lv_at hl 0 rfl) ?_
  refine lv_lload_n hx hb dJ13_bitCount_95d88_25 rfl (lv_at hl 0 rfl) ?_
  refine lv_iconst (v := (4 : Int32)) hx hb dJ13_bitCount_95d88_26 (by decide) ?_
  refine lv_lushr (v := (((((a0 - (((a0.toUInt64 >>> ((1 : Int32).toInt64.toUInt64 &&& Int64.toUInt64 63)).toInt64) &&& (6148914691236517205 : Int64))) &&& (3689348814741910323 : Int64)) + ((((a0 - (((a0.toUInt64 >>> ((1 : Int32).toInt64.toUInt64 &&& Int64.toUInt64 63)).toInt64) &&& (6148914691236517205 : Int64))).toUInt64 >>> ((2 : Int32).toInt64.toUInt64 &&& Int64.toUInt64 63)).toInt64) &&& (3689348814741910323 : Int64))).toUInt64 >>> ((4 : Int32).toInt64.toUInt64 &&& Int64.toUInt64 63)).toInt64)) hx hb dJ13_bitCount_95d88_27 rfl ?_
  refine lv_ladd hx hb dJ13_bitCount_95d88_28 ?_
  refine lv_ldc2 (v := (1085102592571150095 : Int64)) hx hb hown hw2 dJ13_bitCount_95d88_29 ?_
  refine lv_land hx hb dJ13_bitCount_95d88_32 ?_
  refine lv_lstore_n (lv' := [(0, .long (((((a0 - (((a0.toUInt64 >>> ((1 : Int32).toInt64.toUInt64 &&& Int64.toUInt64 63)).toInt64) &&& (6148914691236517205 : Int64))) &&& (3689348814741910323 : Int64)) + ((((a0 - (((a0.toUInt64 >>> ((1 : Int32).toInt64.toUInt64 &&& Int64.toUInt64 63)).toInt64) &&& (6148914691236517205 : Int64))).toUInt64 >>> ((2 : Int32).toInt64.toUInt64 &&& Int64.toUInt64 63)).toInt64) &&& (3689348814741910323 : Int64))) + (((((a0 - (((a0.toUInt64 >>> ((1 : Int32).toInt64.toUInt64 &&& Int64.toUInt64 63)).toInt64) &&& (6148914691236517205 : Int64))) &&& (3689348814741910323 : Int64)) + ((((a0 - (((a0.toUInt64 >>> ((1 : Int32).toInt64.toUInt64 &&& Int64.toUInt64 63)).toInt64) &&& (6148914691236517205 : Int64))).toUInt64 >>> ((2 : Int32).toInt64.toUInt64 &&& Int64.toUInt64 63)).toInt64) &&& (3689348814741910323 : Int64))).toUInt64 >>> ((4 : Int32).toInt64.toUInt64 &&& Int64.toUInt64 63)).toInt64)) &&& (1085102592571150095 : Int64)))]) hx hb dJ13_bitCount_95d88_33 rfl hl (by decide) rfl (fun ls hl => ?_)
  refine lv_lload_n hx hb dJ13_bitCount_95d88_34 rfl (lv_at hl 0 rfl) ?_
  refine lv_lload_n hx hb dJ13_bitCount_95d88_35 rfl (lv_at hl 0 rfl) ?_
  refine lv_bipush (v := (8 : Int32)) hx hb dJ13_bitCount_95d88_36 (by decide) ?_
  refine lv_lushr (v := (((((((a0 - (((a0.toUInt64 >>> ((1 : Int32).toInt64.toUInt64 &&& Int64.toUInt64 63)).toInt64) &&& (6148914691236517205 : Int64))) &&& (3689348814741910323 : Int64)) + ((((a0 - (((a0.toUInt64 >>> ((1 : Int32).toInt64.toUInt64 &&& Int64.toUInt64 63)).toInt64) &&& (6148914691236517205 : Int64))).toUInt64 >>> ((2 : Int32).toInt64.toUInt64 &&& Int64.toUInt64 63)).toInt64) &&& (3689348814741910323 : Int64))) + (((((a0 - (((a0.toUInt64 >>> ((1 : Int32).toInt64.toUInt64 &&& Int64.toUInt64 63)).toInt64) &&& (6148914691236517205 : Int64))) &&& (3689348814741910323 : Int64)) + ((((a0 - (((a0.toUInt64 >>> ((1 : Int32).toInt64.toUInt64 &&& Int64.toUInt64 63)).toInt64) &&& (6148914691236517205 : Int64))).toUInt64 >>> ((2 : Int32).toInt64.toUInt64 &&& Int64.toUInt64 63)).toInt64) &&& (3689348814741910323 : Int64))).toUInt64 >>> ((4 : Int32).toInt64.toUInt64 &&& Int64.toUInt64 63)).toInt64)) &&& (1085102592571150095 : Int64)).toUInt64 >>> ((8 : Int32).toInt64.toUInt64 &&& Int64.toUInt64 63)).toInt64)) hx hb dJ13_bitCount_95d88_38 rfl ?_
  refine lv_ladd hx hb dJ13_bitCount_95d88_39 ?_
  refine lv_lstore_n (lv' := [(0, .long ((((((a0 - (((a0.toUInt64 >>> ((1 : Int32).toInt64.toUInt64 &&& Int64.toUInt64 63)).toInt64) &&& (6148914691236517205 : Int64))) &&& (3689348814741910323 : Int64)) + ((((a0 - (((a0.toUInt64 >>> ((1 : Int32).toInt64.toUInt64 &&& Int64.toUInt64 63)).toInt64) &&& (6148914691236517205 : Int64))).toUInt64 >>> ((2 : Int32).toInt64.toUInt64 &&& Int64.toUInt64 63)).toInt64) &&& (3689348814741910323 : Int64))) + (((((a0 - (((a0.toUInt64 >>> ((1 : Int32).toInt64.toUInt64 &&& Int64.toUInt64 63)).toInt64) &&& (6148914691236517205 : Int64))) &&& (3689348814741910323 : Int64)) + ((((a0 - (((a0.toUInt64 >>> ((1 : Int32).toInt64.toUInt64 &&& Int64.toUInt64 63)).toInt64) &&& (6148914691236517205 : Int64))).toUInt64 >>> ((2 : Int32).toInt64.toUInt64 &&& Int64.toUInt64 63)).toInt64) &&& (3689348814741910323 : Int64))).toUInt64 >>> ((4 : Int32).toInt64.toUInt64 &&& Int64.toUInt64 63)).toInt64)) &&& (1085102592571150095 : Int64)) + (((((((a0 - (((a0.toUInt64 >>> ((1 : Int32).toInt64.toUInt64 &&& Int64.toUInt64 63)).toInt64) &&& (6148914691236517205 : Int64))) &&& (3689348814741910323 : Int64)) + ((((a0 - (((a0.toUInt64 >>> ((1 : Int32).toInt64.toUInt64 &&& Int64.toUInt64 63)).toInt64) &&& (6148914691236517205 : Int64))).toUInt64 >>> ((2 : Int32).toInt64.toUInt64 &&& Int64.toUInt64 63)).toInt64) &&& (3689348814741910323 : Int64))) + (((((a0 - (((a0.toUInt64 >>> ((1 : Int32).toInt64.toUInt64 &&& Int64.toUInt64 63)).toInt64) &&& (6148914691236517205 : Int64))) &&& (3689348814741910323 : Int64)) + ((((a0 - (((a0.toUInt64 >>> ((1 : Int32).toInt64.toUInt64 &&& Int64.toUInt64 63)).toInt64) &&& (6148914691236517205 : Int64))).toUInt64 >>> ((2 : Int32).toInt64.toUInt64 &&& Int64.toUInt64 63)).toInt64) &&& (3689348814741910323 : Int64))).toUInt64 >>> ((4 : Int32).toInt64.toUInt64 &&& Int64.toUInt64 63)).toInt64)) &&& (1085102592571150095 : Int64)).toUInt64 >>> ((8 : Int32).toInt64.toUInt64 &&& Int64.toUInt64 63)).toInt64)))]) hx hb dJ13_bitCount_95d88_40 rfl hl (by decide) rfl (fun ls hl => ?_)
  refine lv_lload_n hx hb dJ13_bitCount_95d88_41 rfl (lv_at hl 0 rfl) ?_
  refine lv_lload_n hx hb dJ13_bitCount_95d88_42 rfl (lv_at hl 0 rfl) ?_
  refine lv_bipush (v := (16 : Int32)) hx hb dJ13_bitCount_95d88_43 (by decide) ?_
  refine lv_lushr (v := ((((((((a0 - (((a0.toUInt64 >>> ((1 : Int32).toInt64.toUInt64 &&& Int64.toUInt64 63)).toInt64) &&& (6148914691236517205 : Int64))) &&& (3689348814741910323 : Int64)) + ((((a0 - (((a0.toUInt64 >>> ((1 : Int32).toInt64.toUInt64 &&& Int64.toUInt64 63)).toInt64) &&& (6148914691236517205 : Int64))).toUInt64 >>> ((2 : Int32).toInt64.toUInt64 &&& Int64.toUInt64 63)).toInt64) &&& (3689348814741910323 : Int64))) + (((((a0 - (((a0.toUInt64 >>> ((1 : Int32).toInt64.toUInt64 &&& Int64.toUInt64 63)).toInt64) &&& (6148914691236517205 : Int64))) &&& (3689348814741910323 : Int64)) + ((((a0 - (((a0.toUInt64 >>> ((1 : Int32).toInt64.toUInt64 &&& Int64.toUInt64 63)).toInt64) &&& (6148914691236517205 : Int64))).toUInt64 >>> ((2 : Int32).toInt64.toUInt64 &&& Int64.toUInt64 63)).toInt64) &&& (3689348814741910323 : Int64))).toUInt64 >>> ((4 : Int32).toInt64.toUInt64 &&& Int64.toUInt64 63)).toInt64)) &&& (1085102592571150095 : Int64)) + (((((((a0 - (((a0.toUInt64 >>> ((1 : Int32).toInt64.toUInt64 &&& Int64.toUInt64 63)).toInt64) &&& (6148914691236517205 : Int64))) &&& (3689348814741910323 : Int64)) + ((((a0 - (((a0.toUInt64 >>> ((1 : Int32).toInt64.toUInt64 &&& Int64.toUInt64 63)).toInt64) &&& (6148914691236517205 : Int64))).toUInt64 >>> ((2 : Int32).toInt64.toUInt64 &&& Int64.toUInt64 63)).toInt64) &&& (3689348814741910323 : Int64))) + (((((a0 - (((a0.toUInt64 >>> ((1 : Int32).toInt64.toUInt64 &&& Int64.toUInt64 63)).toInt64) &&& (6148914691236517205 : Int64))) &&& (3689348814741910323 : Int64)) + ((((a0 - (((a0.toUInt64 >>> ((1 : Int32).toInt64.toUInt64 &&& Int64.toUInt64 63)).toInt64) &&& (6148914691236517205 : Int64))).toUInt64 >>> ((2 : Int32).toInt64.toUInt64 &&& Int64.toUInt64 63)).toInt64) &&& (3689348814741910323 : Int64))).toUInt64 >>> ((4 : Int32).toInt64.toUInt64 &&& Int64.toUInt64 63)).toInt64)) &&& (1085102592571150095 : Int64)).toUInt64 >>> ((8 : Int32).toInt64.toUInt64 &&& Int64.toUInt64 63)).toInt64)).toUInt64 >>> ((16 : Int32).toInt64.toUInt64 &&& Int64.toUInt64 63)).toInt64)) hx hb dJ13_bitCount_95d88_45 rfl ?_
  refine lv_ladd hx hb dJ13_bitCount_95d88_46 ?_
  refine lv_lstore_n (lv' := [(0, .long (((((((a0 - (((a0.toUInt64 >>> ((1 : Int32).toInt64.toUInt64 &&& Int64.toUInt64 63)).toInt64) &&& (6148914691236517205 : Int64))) &&& (3689348814741910323 : Int64)) + ((((a0 - (((a0.toUInt64 >>> ((1 : Int32).toInt64.toUInt64 &&& Int64.toUInt64 63)).toInt64) &&& (6148914691236517205 : Int64))).toUInt64 >>> ((2 : Int32).toInt64.toUInt64 &&& Int64.toUInt64 63)).toInt64) &&& (3689348814741910323 : Int64))) + (((((a0 - (((a0.toUInt64 >>> ((1 : Int32).toInt64.toUInt64 &&& Int64.toUInt64 63)).toInt64) &&& (6148914691236517205 : Int64))) &&& (3689348814741910323 : Int64)) + ((((a0 - (((a0.toUInt64 >>> ((1 : Int32).toInt64.toUInt64 &&& Int64.toUInt64 63)).toInt64) &&& (6148914691236517205 : Int64))).toUInt64 >>> ((2 : Int32).toInt64.toUInt64 &&& Int64.toUInt64 63)).toInt64) &&& (3689348814741910323 : Int64))).toUInt64 >>> ((4 : Int32).toInt64.toUInt64 &&& Int64.toUInt64 63)).toInt64)) &&& (1085102592571150095 : Int64)) + (((((((a0 - (((a0.toUInt64 >>> ((1 : Int32).toInt64.toUInt64 &&& Int64.toUInt64 63)).toInt64) &&& (6148914691236517205 : Int64))) &&& (3689348814741910323 : Int64)) + ((((a0 - (((a0.toUInt64 >>> ((1 : Int32).toInt64.toUInt64 &&& Int64.toUInt64 63)).toInt64) &&& (6148914691236517205 : Int64))).toUInt64 >>> ((2 : Int32).toInt64.toUInt64 &&& Int64.toUInt64 63)).toInt64) &&& (3689348814741910323 : Int64))) + (((((a0 - (((a0.toUInt64 >>> ((1 : Int32).toInt64.toUInt64 &&& Int64.toUInt64 63)).toInt64) &&& (6148914691236517205 : Int64))) &&& (3689348814741910323 : Int64)) + ((((a0 - (((a0.toUInt64 >>> ((1 : Int32).toInt64.toUInt64 &&& Int64.toUInt64 63)).toInt64) &&& (6148914691236517205 : Int64))).toUInt64 >>> ((2 : Int32).toInt64.toUInt64 &&& Int64.toUInt64 63)).toInt64) &&& (3689348814741910323 : Int64))).toUInt64 >>> ((4 : Int32).toInt64.toUInt64 &&& Int64.toUInt64 63)).toInt64)) &&& (1085102592571150095 : Int64)).toUInt64 >>> ((8 : Int32).toInt64.toUInt64 &&& Int64.toUInt64 63)).toInt64)) + ((((((((a0 - (((a0.toUInt64 >>> ((1 : Int32).toInt64.toUInt64 &&& Int64.toUInt64 63)).toInt64) &&& (6148914691236517205 : Int64))) &&& (3689348814741910323 : Int64)) + ((((a0 - (((a0.toUInt64 >>> ((1 : Int32).toInt64.toUInt64 &&& Int64.toUInt64 63)).toInt64) &&& (6148914691236517205 : Int64))).toUInt64 >>> ((2 : Int32).toInt64.toUInt64 &&& Int64.toUInt64 63)).toInt64) &&& (3689348814741910323 : Int64))) + (((((a0 - (((a0.toUInt64 >>> ((1 : Int32).toInt64.toUInt64 &&& Int64.toUInt64 63)).toInt64) &&& (6148914691236517205 : Int64))) &&& (3689348814741910323 : Int64)) + ((((a0 - (((a0.toUInt64 >>> ((1 : Int32).toInt64.toUInt64 &&& Int64.toUInt64 63)).toInt64) &&& (6148914691236517205 : Int64))).toUInt64 >>> ((2 : Int32).toInt64.toUInt64 &&& Int64.toUInt64 63)).toInt64) &&& (3689348814741910323 : Int64))).toUInt64 >>> ((4 : Int32).toInt64.toUInt64 &&& Int64.toUInt64 63)).toInt64)) &&& (1085102592571150095 : Int64)) + (((((((a0 - (((a0.toUInt64 >>> ((1 : Int32).toInt64.toUInt64 &&& Int64.toUInt64 63)).toInt64) &&& (6148914691236517205 : Int64))) &&& (3689348814741910323 : Int64)) + ((((a0 - (((a0.toUInt64 >>> ((1 : Int32).toInt64.toUInt64 &&& Int64.toUInt64 63)).toInt64) &&& (6148914691236517205 : Int64))).toUInt64 >>> ((2 : Int32).toInt64.toUInt64 &&& Int64.toUInt64 63)).toInt64) &&& (3689348814741910323 : Int64))) + (((((a0 - (((a0.toUInt64 >>> ((1 : Int32).toInt64.toUInt64 &&& Int64.toUInt64 63)).toInt64) &&& (6148914691236517205 : Int64))) &&& (3689348814741910323 : Int64)) + ((((a0 - (((a0.toUInt64 >>> ((1 : Int32).toInt64.toUInt64 &&& Int64.toUInt64 63)).toInt64) &&& (6148914691236517205 : Int64))).toUInt64 >>> ((2 : Int32).toInt64.toUInt64 &&& Int64.toUInt64 63)).toInt64) &&& (3689348814741910323 : Int64))).toUInt64 >>> ((4 : Int32).toInt64.toUInt64 &&& Int64.toUInt64 63)).toInt64)) &&& (1085102592571150095 : Int64)).toUInt64 >>> ((8 : Int32).toInt64.toUInt64 &&& Int64.toUInt64 63)).toInt64)).toUInt64 >>> ((16 : Int32).toInt64.toUInt64 &&& Int64.toUInt64 63)).toInt64)))]) hx hb dJ13_bitCount_95d88_47 rfl hl (by decide) rfl (fun ls hl => ?_)
  refine lv_lload_n hx hb dJ13_bitCount_95d88_48 rfl (lv_at hl 0 rfl) ?_
  refine lv_lload_n hx hb dJ13_bitCount_95d88_49 rfl (lv_at hl 0 rfl) ?_
  refine lv_bipush (v := (32 : Int32)) hx hb dJ13_bitCount_95d88_50 (by decide) ?_
  refine lv_lushr (v := (((((((((a0 - (((a0.toUInt64 >>> ((1 : Int32).toInt64.toUInt64 &&& Int64.toUInt64 63)).toInt64) &&& (6148914691236517205 : Int64))) &&& (3689348814741910323 : Int64)) + ((((a0 - (((a0.toUInt64 >>> ((1 : Int32).toInt64.toUInt64 &&& Int64.toUInt64 63)).toInt64) &&& (6148914691236517205 : Int64))).toUInt64 >>> ((2 : Int32).toInt64.toUInt64 &&& Int64.toUInt64 63)).toInt64) &&& (3689348814741910323 : Int64))) + (((((a0 - (((a0.toUInt64 >>> ((1 : Int32).toInt64.toUInt64 &&& Int64.toUInt64 63)).toInt64) &&& (6148914691236517205 : Int64))) &&& (3689348814741910323 : Int64)) + ((((a0 - (((a0.toUInt64 >>> ((1 : Int32).toInt64.toUInt64 &&& Int64.toUInt64 63)).toInt64) &&& (6148914691236517205 : Int64))).toUInt64 >>> ((2 : Int32).toInt64.toUInt64 &&& Int64.toUInt64 63)).toInt64) &&& (3689348814741910323 : Int64))).toUInt64 >>> ((4 : Int32).toInt64.toUInt64 &&& Int64.toUInt64 63)).toInt64)) &&& (1085102592571150095 : Int64)) + (((((((a0 - (((a0.toUInt64 >>> ((1 : Int32).toInt64.toUInt64 &&& Int64.toUInt64 63)).toInt64) &&& (6148914691236517205 : Int64))) &&& (3689348814741910323 : Int64)) + ((((a0 - (((a0.toUInt64 >>> ((1 : Int32).toInt64.toUInt64 &&& Int64.toUInt64 63)).toInt64) &&& (6148914691236517205 : Int64))).toUInt64 >>> ((2 : Int32).toInt64.toUInt64 &&& Int64.toUInt64 63)).toInt64) &&& (3689348814741910323 : Int64))) + (((((a0 - (((a0.toUInt64 >>> ((1 : Int32).toInt64.toUInt64 &&& Int64.toUInt64 63)).toInt64) &&& (6148914691236517205 : Int64))) &&& (3689348814741910323 : Int64)) + ((((a0 - (((a0.toUInt64 >>> ((1 : Int32).toInt64.toUInt64 &&& Int64.toUInt64 63)).toInt64) &&& (6148914691236517205 : Int64))).toUInt64 >>> ((2 : Int32).toInt64.toUInt64 &&& Int64.toUInt64 63)).toInt64) &&& (3689348814741910323 : Int64))).toUInt64 >>> ((4 : Int32).toInt64.toUInt64 &&& Int64.toUInt64 63)).toInt64)) &&& (1085102592571150095 : Int64)).toUInt64 >>> ((8 : Int32).toInt64.toUInt64 &&& Int64.toUInt64 63)).toInt64)) + ((((((((a0 - (((a0.toUInt64 >>> ((1 : Int32).toInt64.toUInt64 &&& Int64.toUInt64 63)).toInt64) &&& (6148914691236517205 : Int64))) &&& (3689348814741910323 : Int64)) + ((((a0 - (((a0.toUInt64 >>> ((1 : Int32).toInt64.toUInt64 &&& Int64.toUInt64 63)).toInt64) &&& (6148914691236517205 : Int64))).toUInt64 >>> ((2 : Int32).toInt64.toUInt64 &&& Int64.toUInt64 63)).toInt64) &&& (3689348814741910323 : Int64))) + (((((a0 - (((a0.toUInt64 >>> ((1 : Int32).toInt64.toUInt64 &&& Int64.toUInt64 63)).toInt64) &&& (6148914691236517205 : Int64))) &&& (3689348814741910323 : Int64)) + ((((a0 - (((a0.toUInt64 >>> ((1 : Int32).toInt64.toUInt64 &&& Int64.toUInt64 63)).toInt64) &&& (6148914691236517205 : Int64))).toUInt64 >>> ((2 : Int32).toInt64.toUInt64 &&& Int64.toUInt64 63)).toInt64) &&& (3689348814741910323 : Int64))).toUInt64 >>> ((4 : Int32).toInt64.toUInt64 &&& Int64.toUInt64 63)).toInt64)) &&& (1085102592571150095 : Int64)) + (((((((a0 - (((a0.toUInt64 >>> ((1 : Int32).toInt64.toUInt64 &&& Int64.toUInt64 63)).toInt64) &&& (6148914691236517205 : Int64))) &&& (3689348814741910323 : Int64)) + ((((a0 - (((a0.toUInt64 >>> ((1 : Int32).toInt64.toUInt64 &&& Int64.toUInt64 63)).toInt64) &&& (6148914691236517205 : Int64))).toUInt64 >>> ((2 : Int32).toInt64.toUInt64 &&& Int64.toUInt64 63)).toInt64) &&& (3689348814741910323 : Int64))) + (((((a0 - (((a0.toUInt64 >>> ((1 : Int32).toInt64.toUInt64 &&& Int64.toUInt64 63)).toInt64) &&& (6148914691236517205 : Int64))) &&& (3689348814741910323 : Int64)) + ((((a0 - (((a0.toUInt64 >>> ((1 : Int32).toInt64.toUInt64 &&& Int64.toUInt64 63)).toInt64) &&& (6148914691236517205 : Int64))).toUInt64 >>> ((2 : Int32).toInt64.toUInt64 &&& Int64.toUInt64 63)).toInt64) &&& (3689348814741910323 : Int64))).toUInt64 >>> ((4 : Int32).toInt64.toUInt64 &&& Int64.toUInt64 63)).toInt64)) &&& (1085102592571150095 : Int64)).toUInt64 >>> ((8 : Int32).toInt64.toUInt64 &&& Int64.toUInt64 63)).toInt64)).toUInt64 >>> ((16 : Int32).toInt64.toUInt64 &&& Int64.toUInt64 63)).toInt64)).toUInt64 >>> ((32 : Int32).toInt64.toUInt64 &&& Int64.toUInt64 63)).toInt64)) hx hb dJ13_bitCount_95d88_52 rfl ?_
  refine lv_ladd hx hb dJ13_bitCount_95d88_53 ?_
  refine lv_lstore_n (lv' := [(0, .long ((((((((a0 - (((a0.toUInt64 >>> ((1 : Int32).toInt64.toUInt64 &&& Int64.toUInt64 63)).toInt64) &&& (6148914691236517205 : Int64))) &&& (3689348814741910323 : Int64)) + ((((a0 - (((a0.toUInt64 >>> ((1 : Int32).toInt64.toUInt64 &&& Int64.toUInt64 63)).toInt64) &&& (6148914691236517205 : Int64))).toUInt64 >>> ((2 : Int32).toInt64.toUInt64 &&& Int64.toUInt64 63)).toInt64) &&& (3689348814741910323 : Int64))) + (((((a0 - (((a0.toUInt64 >>> ((1 : Int32).toInt64.toUInt64 &&& Int64.toUInt64 63)).toInt64) &&& (6148914691236517205 : Int64))) &&& (3689348814741910323 : Int64)) + ((((a0 - (((a0.toUInt64 >>> ((1 : Int32).toInt64.toUInt64 &&& Int64.toUInt64 63)).toInt64) &&& (6148914691236517205 : Int64))).toUInt64 >>> ((2 : Int32).toInt64.toUInt64 &&& Int64.toUInt64 63)).toInt64) &&& (3689348814741910323 : Int64))).toUInt64 >>> ((4 : Int32).toInt64.toUInt64 &&& Int64.toUInt64 63)).toInt64)) &&& (1085102592571150095 : Int64)) + (((((((a0 - (((a0.toUInt64 >>> ((1 : Int32).toInt64.toUInt64 &&& Int64.toUInt64 63)).toInt64) &&& (6148914691236517205 : Int64))) &&& (3689348814741910323 : Int64)) + ((((a0 - (((a0.toUInt64 >>> ((1 : Int32).toInt64.toUInt64 &&& Int64.toUInt64 63)).toInt64) &&& (6148914691236517205 : Int64))).toUInt64 >>> ((2 : Int32).toInt64.toUInt64 &&& Int64.toUInt64 63)).toInt64) &&& (3689348814741910323 : Int64))) + (((((a0 - (((a0.toUInt64 >>> ((1 : Int32).toInt64.toUInt64 &&& Int64.toUInt64 63)).toInt64) &&& (6148914691236517205 : Int64))) &&& (3689348814741910323 : Int64)) + ((((a0 - (((a0.toUInt64 >>> ((1 : Int32).toInt64.toUInt64 &&& Int64.toUInt64 63)).toInt64) &&& (6148914691236517205 : Int64))).toUInt64 >>> ((2 : Int32).toInt64.toUInt64 &&& Int64.toUInt64 63)).toInt64) &&& (3689348814741910323 : Int64))).toUInt64 >>> ((4 : Int32).toInt64.toUInt64 &&& Int64.toUInt64 63)).toInt64)) &&& (1085102592571150095 : Int64)).toUInt64 >>> ((8 : Int32).toInt64.toUInt64 &&& Int64.toUInt64 63)).toInt64)) + ((((((((a0 - (((a0.toUInt64 >>> ((1 : Int32).toInt64.toUInt64 &&& Int64.toUInt64 63)).toInt64) &&& (6148914691236517205 : Int64))) &&& (3689348814741910323 : Int64)) + ((((a0 - (((a0.toUInt64 >>> ((1 : Int32).toInt64.toUInt64 &&& Int64.toUInt64 63)).toInt64) &&& (6148914691236517205 : Int64))).toUInt64 >>> ((2 : Int32).toInt64.toUInt64 &&& Int64.toUInt64 63)).toInt64) &&& (3689348814741910323 : Int64))) + (((((a0 - (((a0.toUInt64 >>> ((1 : Int32).toInt64.toUInt64 &&& Int64.toUInt64 63)).toInt64) &&& (6148914691236517205 : Int64))) &&& (3689348814741910323 : Int64)) + ((((a0 - (((a0.toUInt64 >>> ((1 : Int32).toInt64.toUInt64 &&& Int64.toUInt64 63)).toInt64) &&& (6148914691236517205 : Int64))).toUInt64 >>> ((2 : Int32).toInt64.toUInt64 &&& Int64.toUInt64 63)).toInt64) &&& (3689348814741910323 : Int64))).toUInt64 >>> ((4 : Int32).toInt64.toUInt64 &&& Int64.toUInt64 63)).toInt64)) &&& (1085102592571150095 : Int64)) + (((((((a0 - (((a0.toUInt64 >>> ((1 : Int32).toInt64.toUInt64 &&& Int64.toUInt64 63)).toInt64) &&& (6148914691236517205 : Int64))) &&& (3689348814741910323 : Int64)) + ((((a0 - (((a0.toUInt64 >>> ((1 : Int32).toInt64.toUInt64 &&& Int64.toUInt64 63)).toInt64) &&& (6148914691236517205 : Int64))).toUInt64 >>> ((2 : Int32).toInt64.toUInt64 &&& Int64.toUInt64 63)).toInt64) &&& (3689348814741910323 : Int64))) + (((((a0 - (((a0.toUInt64 >>> ((1 : Int32).toInt64.toUInt64 &&& Int64.toUInt64 63)).toInt64) &&& (6148914691236517205 : Int64))) &&& (3689348814741910323 : Int64)) + ((((a0 - (((a0.toUInt64 >>> ((1 : Int32).toInt64.toUInt64 &&& Int64.toUInt64 63)).toInt64) &&& (6148914691236517205 : Int64))).toUInt64 >>> ((2 : Int32).toInt64.toUInt64 &&& Int64.toUInt64 63)).toInt64) &&& (3689348814741910323 : Int64))).toUInt64 >>> ((4 : Int32).toInt64.toUInt64 &&& Int64.toUInt64 63)).toInt64)) &&& (1085102592571150095 : Int64)).toUInt64 >>> ((8 : Int32).toInt64.toUInt64 &&& Int64.toUInt64 63)).toInt64)).toUInt64 >>> ((16 : Int32).toInt64.toUInt64 &&& Int64.toUInt64 63)).toInt64)) + (((((((((a0 - (((a0.toUInt64 >>> ((1 : Int32).toInt64.toUInt64 &&& Int64.toUInt64 63)).toInt64) &&& (6148914691236517205 : Int64))) &&& (3689348814741910323 : Int64)) + ((((a0 - (((a0.toUInt64 >>> ((1 : Int32).toInt64.toUInt64 &&& Int64.toUInt64 63)).toInt64) &&& (6148914691236517205 : Int64))).toUInt64 >>> ((2 : Int32).toInt64.toUInt64 &&& Int64.toUInt64 63)).toInt64) &&& (3689348814741910323 : Int64))) + (((((a0 - (((a0.toUInt64 >>> ((1 : Int32).toInt64.toUInt64 &&& Int64.toUInt64 63)).toInt64) &&& (6148914691236517205 : Int64))) &&& (3689348814741910323 : Int64)) + ((((a0 - (((a0.toUInt64 >>> ((1 : Int32).toInt64.toUInt64 &&& Int64.toUInt64 63)).toInt64) &&& (6148914691236517205 : Int64))).toUInt64 >>> ((2 : Int32).toInt64.toUInt64 &&& Int64.toUInt64 63)).toInt64) &&& (3689348814741910323 : Int64))).toUInt64 >>> ((4 : Int32).toInt64.toUInt64 &&& Int64.toUInt64 63)).toInt64)) &&& (1085102592571150095 : Int64)) + (((((((a0 - (((a0.toUInt64 >>> ((1 : Int32).toInt64.toUInt64 &&& Int64.toUInt64 63)).toInt64) &&& (6148914691236517205 : Int64))) &&& (3689348814741910323 : Int64)) + ((((a0 - (((a0.toUInt64 >>> ((1 : Int32).toInt64.toUInt64 &&& Int64.toUInt64 63)).toInt64) &&& (6148914691236517205 : Int64))).toUInt64 >>> ((2 : Int32).toInt64.toUInt64 &&& Int64.toUInt64 63)).toInt64) &&& (3689348814741910323 : Int64))) + (((((a0 - (((a0.toUInt64 >>> ((1 : Int32).toInt64.toUInt64 &&& Int64.toUInt64 63)).toInt64) &&& (6148914691236517205 : Int64))) &&& (3689348814741910323 : Int64)) + ((((a0 - (((a0.toUInt64 >>> ((1 : Int32).toInt64.toUInt64 &&& Int64.toUInt64 63)).toInt64) &&& (6148914691236517205 : Int64))).toUInt64 >>> ((2 : Int32).toInt64.toUInt64 &&& Int64.toUInt64 63)).toInt64) &&& (3689348814741910323 : Int64))).toUInt64 >>> ((4 : Int32).toInt64.toUInt64 &&& Int64.toUInt64 63)).toInt64)) &&& (1085102592571150095 : Int64)).toUInt64 >>> ((8 : Int32).toInt64.toUInt64 &&& Int64.toUInt64 63)).toInt64)) + ((((((((a0 - (((a0.toUInt64 >>> ((1 : Int32).toInt64.toUInt64 &&& Int64.toUInt64 63)).toInt64) &&& (6148914691236517205 : Int64))) &&& (3689348814741910323 : Int64)) + ((((a0 - (((a0.toUInt64 >>> ((1 : Int32).toInt64.toUInt64 &&& Int64.toUInt64 63)).toInt64) &&& (6148914691236517205 : Int64))).toUInt64 >>> ((2 : Int32).toInt64.toUInt64 &&& Int64.toUInt64 63)).toInt64) &&& (3689348814741910323 : Int64))) + (((((a0 - (((a0.toUInt64 >>> ((1 : Int32).toInt64.toUInt64 &&& Int64.toUInt64 63)).toInt64) &&& (6148914691236517205 : Int64))) &&& (3689348814741910323 : Int64)) + ((((a0 - (((a0.toUInt64 >>> ((1 : Int32).toInt64.toUInt64 &&& Int64.toUInt64 63)).toInt64) &&& (6148914691236517205 : Int64))).toUInt64 >>> ((2 : Int32).toInt64.toUInt64 &&& Int64.toUInt64 63)).toInt64) &&& (3689348814741910323 : Int64))).toUInt64 >>> ((4 : Int32).toInt64.toUInt64 &&& Int64.toUInt64 63)).toInt64)) &&& (1085102592571150095 : Int64)) + (((((((a0 - (((a0.toUInt64 >>> ((1 : Int32).toInt64.toUInt64 &&& Int64.toUInt64 63)).toInt64) &&& (6148914691236517205 : Int64))) &&& (3689348814741910323 : Int64)) + ((((a0 - (((a0.toUInt64 >>> ((1 : Int32).toInt64.toUInt64 &&& Int64.toUInt64 63)).toInt64) &&& (6148914691236517205 : Int64))).toUInt64 >>> ((2 : Int32).toInt64.toUInt64 &&& Int64.toUInt64 63)).toInt64) &&& (3689348814741910323 : Int64))) + (((((a0 - (((a0.toUInt64 >>> ((1 : Int32).toInt64.toUInt64 &&& Int64.toUInt64 63)).toInt64) &&& (6148914691236517205 : Int64))) &&& (3689348814741910323 : Int64)) + ((((a0 - (((a0.toUInt64 >>> ((1 : Int32).toInt64.toUInt64 &&& Int64.toUInt64 63)).toInt64) &&& (6148914691236517205 : Int64))).toUInt64 >>> ((2 : Int32).toInt64.toUInt64 &&& Int64.toUInt64 63)).toInt64) &&& (3689348814741910323 : Int64))).toUInt64 >>> ((4 : Int32).toInt64.toUInt64 &&& Int64.toUInt64 63)).toInt64)) &&& (1085102592571150095 : Int64)).toUInt64 >>> ((8 : Int32).toInt64.toUInt64 &&& Int64.toUInt64 63)).toInt64)).toUInt64 >>> ((16 : Int32).toInt64.toUInt64 &&& Int64.toUInt64 63)).toInt64)).toUInt64 >>> ((32 : Int32).toInt64.toUInt64 &&& Int64.toUInt64 63)).toInt64)))]) hx hb dJ13_bitCount_95d88_54 rfl hl (by decide) rfl (fun ls hl => ?_)
  refine lv_lload_n hx hb dJ13_bitCount_95d88_55 rfl (lv_at hl 0 rfl) ?_
  refine lv_l2i (v := (((((((((a0 - (((a0.toUInt64 >>> ((1 : Int32).toInt64.toUInt64 &&& Int64.toUInt64 63)).toInt64) &&& (6148914691236517205 : Int64))) &&& (3689348814741910323 : Int64)) + ((((a0 - (((a0.toUInt64 >>> ((1 : Int32).toInt64.toUInt64 &&& Int64.toUInt64 63)).toInt64) &&& (6148914691236517205 : Int64))).toUInt64 >>> ((2 : Int32).toInt64.toUInt64 &&& Int64.toUInt64 63)).toInt64) &&& (3689348814741910323 : Int64))) + (((((a0 - (((a0.toUInt64 >>> ((1 : Int32).toInt64.toUInt64 &&& Int64.toUInt64 63)).toInt64) &&& (6148914691236517205 : Int64))) &&& (3689348814741910323 : Int64)) + ((((a0 - (((a0.toUInt64 >>> ((1 : Int32).toInt64.toUInt64 &&& Int64.toUInt64 63)).toInt64) &&& (6148914691236517205 : Int64))).toUInt64 >>> ((2 : Int32).toInt64.toUInt64 &&& Int64.toUInt64 63)).toInt64) &&& (3689348814741910323 : Int64))).toUInt64 >>> ((4 : Int32).toInt64.toUInt64 &&& Int64.toUInt64 63)).toInt64)) &&& (1085102592571150095 : Int64)) + (((((((a0 - (((a0.toUInt64 >>> ((1 : Int32).toInt64.toUInt64 &&& Int64.toUInt64 63)).toInt64) &&& (6148914691236517205 : Int64))) &&& (3689348814741910323 : Int64)) + ((((a0 - (((a0.toUInt64 >>> ((1 : Int32).toInt64.toUInt64 &&& Int64.toUInt64 63)).toInt64) &&& (6148914691236517205 : Int64))).toUInt64 >>> ((2 : Int32).toInt64.toUInt64 &&& Int64.toUInt64 63)).toInt64) &&& (3689348814741910323 : Int64))) + (((((a0 - (((a0.toUInt64 >>> ((1 : Int32).toInt64.toUInt64 &&& Int64.toUInt64 63)).toInt64) &&& (6148914691236517205 : Int64))) &&& (3689348814741910323 : Int64)) + ((((a0 - (((a0.toUInt64 >>> ((1 : Int32).toInt64.toUInt64 &&& Int64.toUInt64 63)).toInt64) &&& (6148914691236517205 : Int64))).toUInt64 >>> ((2 : Int32).toInt64.toUInt64 &&& Int64.toUInt64 63)).toInt64) &&& (3689348814741910323 : Int64))).toUInt64 >>> ((4 : Int32).toInt64.toUInt64 &&& Int64.toUInt64 63)).toInt64)) &&& (1085102592571150095 : Int64)).toUInt64 >>> ((8 : Int32).toInt64.toUInt64 &&& Int64.toUInt64 63)).toInt64)) + ((((((((a0 - (((a0.toUInt64 >>> ((1 : Int32).toInt64.toUInt64 &&& Int64.toUInt64 63)).toInt64) &&& (6148914691236517205 : Int64))) &&& (3689348814741910323 : Int64)) + ((((a0 - (((a0.toUInt64 >>> ((1 : Int32).toInt64.toUInt64 &&& Int64.toUInt64 63)).toInt64) &&& (6148914691236517205 : Int64))).toUInt64 >>> ((2 : Int32).toInt64.toUInt64 &&& Int64.toUInt64 63)).toInt64) &&& (3689348814741910323 : Int64))) + (((((a0 - (((a0.toUInt64 >>> ((1 : Int32).toInt64.toUInt64 &&& Int64.toUInt64 63)).toInt64) &&& (6148914691236517205 : Int64))) &&& (3689348814741910323 : Int64)) + ((((a0 - (((a0.toUInt64 >>> ((1 : Int32).toInt64.toUInt64 &&& Int64.toUInt64 63)).toInt64) &&& (6148914691236517205 : Int64))).toUInt64 >>> ((2 : Int32).toInt64.toUInt64 &&& Int64.toUInt64 63)).toInt64) &&& (3689348814741910323 : Int64))).toUInt64 >>> ((4 : Int32).toInt64.toUInt64 &&& Int64.toUInt64 63)).toInt64)) &&& (1085102592571150095 : Int64)) + (((((((a0 - (((a0.toUInt64 >>> ((1 : Int32).toInt64.toUInt64 &&& Int64.toUInt64 63)).toInt64) &&& (6148914691236517205 : Int64))) &&& (3689348814741910323 : Int64)) + ((((a0 - (((a0.toUInt64 >>> ((1 : Int32).toInt64.toUInt64 &&& Int64.toUInt64 63)).toInt64) &&& (6148914691236517205 : Int64))).toUInt64 >>> ((2 : Int32).toInt64.toUInt64 &&& Int64.toUInt64 63)).toInt64) &&& (3689348814741910323 : Int64))) + (((((a0 - (((a0.toUInt64 >>> ((1 : Int32).toInt64.toUInt64 &&& Int64.toUInt64 63)).toInt64) &&& (6148914691236517205 : Int64))) &&& (3689348814741910323 : Int64)) + ((((a0 - (((a0.toUInt64 >>> ((1 : Int32).toInt64.toUInt64 &&& Int64.toUInt64 63)).toInt64) &&& (6148914691236517205 : Int64))).toUInt64 >>> ((2 : Int32).toInt64.toUInt64 &&& Int64.toUInt64 63)).toInt64) &&& (3689348814741910323 : Int64))).toUInt64 >>> ((4 : Int32).toInt64.toUInt64 &&& Int64.toUInt64 63)).toInt64)) &&& (1085102592571150095 : Int64)).toUInt64 >>> ((8 : Int32).toInt64.toUInt64 &&& Int64.toUInt64 63)).toInt64)).toUInt64 >>> ((16 : Int32).toInt64.toUInt64 &&& Int64.toUInt64 63)).toInt64)) + (((((((((a0 - (((a0.toUInt64 >>> ((1 : Int32).toInt64.toUInt64 &&& Int64.toUInt64 63)).toInt64) &&& (6148914691236517205 : Int64))) &&& (3689348814741910323 : Int64)) + ((((a0 - (((a0.toUInt64 >>> ((1 : Int32).toInt64.toUInt64 &&& Int64.toUInt64 63)).toInt64) &&& (6148914691236517205 : Int64))).toUInt64 >>> ((2 : Int32).toInt64.toUInt64 &&& Int64.toUInt64 63)).toInt64) &&& (3689348814741910323 : Int64))) + (((((a0 - (((a0.toUInt64 >>> ((1 : Int32).toInt64.toUInt64 &&& Int64.toUInt64 63)).toInt64) &&& (6148914691236517205 : Int64))) &&& (3689348814741910323 : Int64)) + ((((a0 - (((a0.toUInt64 >>> ((1 : Int32).toInt64.toUInt64 &&& Int64.toUInt64 63)).toInt64) &&& (6148914691236517205 : Int64))).toUInt64 >>> ((2 : Int32).toInt64.toUInt64 &&& Int64.toUInt64 63)).toInt64) &&& (3689348814741910323 : Int64))).toUInt64 >>> ((4 : Int32).toInt64.toUInt64 &&& Int64.toUInt64 63)).toInt64)) &&& (1085102592571150095 : Int64)) + (((((((a0 - (((a0.toUInt64 >>> ((1 : Int32).toInt64.toUInt64 &&& Int64.toUInt64 63)).toInt64) &&& (6148914691236517205 : Int64))) &&& (3689348814741910323 : Int64)) + ((((a0 - (((a0.toUInt64 >>> ((1 : Int32).toInt64.toUInt64 &&& Int64.toUInt64 63)).toInt64) &&& (6148914691236517205 : Int64))).toUInt64 >>> ((2 : Int32).toInt64.toUInt64 &&& Int64.toUInt64 63)).toInt64) &&& (3689348814741910323 : Int64))) + (((((a0 - (((a0.toUInt64 >>> ((1 : Int32).toInt64.toUInt64 &&& Int64.toUInt64 63)).toInt64) &&& (6148914691236517205 : Int64))) &&& (3689348814741910323 : Int64)) + ((((a0 - (((a0.toUInt64 >>> ((1 : Int32).toInt64.toUInt64 &&& Int64.toUInt64 63)).toInt64) &&& (6148914691236517205 : Int64))).toUInt64 >>> ((2 : Int32).toInt64.toUInt64 &&& Int64.toUInt64 63)).toInt64) &&& (3689348814741910323 : Int64))).toUInt64 >>> ((4 : Int32).toInt64.toUInt64 &&& Int64.toUInt64 63)).toInt64)) &&& (1085102592571150095 : Int64)).toUInt64 >>> ((8 : Int32).toInt64.toUInt64 &&& Int64.toUInt64 63)).toInt64)) + ((((((((a0 - (((a0.toUInt64 >>> ((1 : Int32).toInt64.toUInt64 &&& Int64.toUInt64 63)).toInt64) &&& (6148914691236517205 : Int64))) &&& (3689348814741910323 : Int64)) + ((((a0 - (((a0.toUInt64 >>> ((1 : Int32).toInt64.toUInt64 &&& Int64.toUInt64 63)).toInt64) &&& (6148914691236517205 : Int64))).toUInt64 >>> ((2 : Int32).toInt64.toUInt64 &&& Int64.toUInt64 63)).toInt64) &&& (3689348814741910323 : Int64))) + (((((a0 - (((a0.toUInt64 >>> ((1 : Int32).toInt64.toUInt64 &&& Int64.toUInt64 63)).toInt64) &&& (6148914691236517205 : Int64))) &&& (3689348814741910323 : Int64)) + ((((a0 - (((a0.toUInt64 >>> ((1 : Int32).toInt64.toUInt64 &&& Int64.toUInt64 63)).toInt64) &&& (6148914691236517205 : Int64))).toUInt64 >>> ((2 : Int32).toInt64.toUInt64 &&& Int64.toUInt64 63)).toInt64) &&& (3689348814741910323 : Int64))).toUInt64 >>> ((4 : Int32).toInt64.toUInt64 &&& Int64.toUInt64 63)).toInt64)) &&& (1085102592571150095 : Int64)) + (((((((a0 - (((a0.toUInt64 >>> ((1 : Int32).toInt64.toUInt64 &&& Int64.toUInt64 63)).toInt64) &&& (6148914691236517205 : Int64))) &&& (3689348814741910323 : Int64)) + ((((a0 - (((a0.toUInt64 >>> ((1 : Int32).toInt64.toUInt64 &&& Int64.toUInt64 63)).toInt64) &&& (6148914691236517205 : Int64))).toUInt64 >>> ((2 : Int32).toInt64.toUInt64 &&& Int64.toUInt64 63)).toInt64) &&& (3689348814741910323 : Int64))) + (((((a0 - (((a0.toUInt64 >>> ((1 : Int32).toInt64.toUInt64 &&& Int64.toUInt64 63)).toInt64) &&& (6148914691236517205 : Int64))) &&& (3689348814741910323 : Int64)) + ((((a0 - (((a0.toUInt64 >>> ((1 : Int32).toInt64.toUInt64 &&& Int64.toUInt64 63)).toInt64) &&& (6148914691236517205 : Int64))).toUInt64 >>> ((2 : Int32).toInt64.toUInt64 &&& Int64.toUInt64 63)).toInt64) &&& (3689348814741910323 : Int64))).toUInt64 >>> ((4 : Int32).toInt64.toUInt64 &&& Int64.toUInt64 63)).toInt64)) &&& (1085102592571150095 : Int64)).toUInt64 >>> ((8 : Int32).toInt64.toUInt64 &&& Int64.toUInt64 63)).toInt64)).toUInt64 >>> ((16 : Int32).toInt64.toUInt64 &&& Int64.toUInt64 63)).toInt64)).toUInt64 >>> ((32 : Int32).toInt64.toUInt64 &&& Int64.toUInt64 63)).toInt64)).toInt32)) hx hb dJ13_bitCount_95d88_56 rfl ?_
  refine lv_bipush (v := (127 : Int32)) hx hb dJ13_bitCount_95d88_57 (by decide) ?_
  refine lv_iand hx hb dJ13_bitCount_95d88_59 ?_
  have hres : ((((((((((a0 - (((a0.toUInt64 >>> ((1 : Int32).toInt64.toUInt64 &&& Int64.toUInt64 63)).toInt64) &&& (6148914691236517205 : Int64))) &&& (3689348814741910323 : Int64)) + ((((a0 - (((a0.toUInt64 >>> ((1 : Int32).toInt64.toUInt64 &&& Int64.toUInt64 63)).toInt64) &&& (6148914691236517205 : Int64))).toUInt64 >>> ((2 : Int32).toInt64.toUInt64 &&& Int64.toUInt64 63)).toInt64) &&& (3689348814741910323 : Int64))) + (((((a0 - (((a0.toUInt64 >>> ((1 : Int32).toInt64.toUInt64 &&& Int64.toUInt64 63)).toInt64) &&& (6148914691236517205 : Int64))) &&& (3689348814741910323 : Int64)) + ((((a0 - (((a0.toUInt64 >>> ((1 : Int32).toInt64.toUInt64 &&& Int64.toUInt64 63)).toInt64) &&& (6148914691236517205 : Int64))).toUInt64 >>> ((2 : Int32).toInt64.toUInt64 &&& Int64.toUInt64 63)).toInt64) &&& (3689348814741910323 : Int64))).toUInt64 >>> ((4 : Int32).toInt64.toUInt64 &&& Int64.toUInt64 63)).toInt64)) &&& (1085102592571150095 : Int64)) + (((((((a0 - (((a0.toUInt64 >>> ((1 : Int32).toInt64.toUInt64 &&& Int64.toUInt64 63)).toInt64) &&& (6148914691236517205 : Int64))) &&& (3689348814741910323 : Int64)) + ((((a0 - (((a0.toUInt64 >>> ((1 : Int32).toInt64.toUInt64 &&& Int64.toUInt64 63)).toInt64) &&& (6148914691236517205 : Int64))).toUInt64 >>> ((2 : Int32).toInt64.toUInt64 &&& Int64.toUInt64 63)).toInt64) &&& (3689348814741910323 : Int64))) + (((((a0 - (((a0.toUInt64 >>> ((1 : Int32).toInt64.toUInt64 &&& Int64.toUInt64 63)).toInt64) &&& (6148914691236517205 : Int64))) &&& (3689348814741910323 : Int64)) + ((((a0 - (((a0.toUInt64 >>> ((1 : Int32).toInt64.toUInt64 &&& Int64.toUInt64 63)).toInt64) &&& (6148914691236517205 : Int64))).toUInt64 >>> ((2 : Int32).toInt64.toUInt64 &&& Int64.toUInt64 63)).toInt64) &&& (3689348814741910323 : Int64))).toUInt64 >>> ((4 : Int32).toInt64.toUInt64 &&& Int64.toUInt64 63)).toInt64)) &&& (1085102592571150095 : Int64)).toUInt64 >>> ((8 : Int32).toInt64.toUInt64 &&& Int64.toUInt64 63)).toInt64)) + ((((((((a0 - (((a0.toUInt64 >>> ((1 : Int32).toInt64.toUInt64 &&& Int64.toUInt64 63)).toInt64) &&& (6148914691236517205 : Int64))) &&& (3689348814741910323 : Int64)) + ((((a0 - (((a0.toUInt64 >>> ((1 : Int32).toInt64.toUInt64 &&& Int64.toUInt64 63)).toInt64) &&& (6148914691236517205 : Int64))).toUInt64 >>> ((2 : Int32).toInt64.toUInt64 &&& Int64.toUInt64 63)).toInt64) &&& (3689348814741910323 : Int64))) + (((((a0 - (((a0.toUInt64 >>> ((1 : Int32).toInt64.toUInt64 &&& Int64.toUInt64 63)).toInt64) &&& (6148914691236517205 : Int64))) &&& (3689348814741910323 : Int64)) + ((((a0 - (((a0.toUInt64 >>> ((1 : Int32).toInt64.toUInt64 &&& Int64.toUInt64 63)).toInt64) &&& (6148914691236517205 : Int64))).toUInt64 >>> ((2 : Int32).toInt64.toUInt64 &&& Int64.toUInt64 63)).toInt64) &&& (3689348814741910323 : Int64))).toUInt64 >>> ((4 : Int32).toInt64.toUInt64 &&& Int64.toUInt64 63)).toInt64)) &&& (1085102592571150095 : Int64)) + (((((((a0 - (((a0.toUInt64 >>> ((1 : Int32).toInt64.toUInt64 &&& Int64.toUInt64 63)).toInt64) &&& (6148914691236517205 : Int64))) &&& (3689348814741910323 : Int64)) + ((((a0 - (((a0.toUInt64 >>> ((1 : Int32).toInt64.toUInt64 &&& Int64.toUInt64 63)).toInt64) &&& (6148914691236517205 : Int64))).toUInt64 >>> ((2 : Int32).toInt64.toUInt64 &&& Int64.toUInt64 63)).toInt64) &&& (3689348814741910323 : Int64))) + (((((a0 - (((a0.toUInt64 >>> ((1 : Int32).toInt64.toUInt64 &&& Int64.toUInt64 63)).toInt64) &&& (6148914691236517205 : Int64))) &&& (3689348814741910323 : Int64)) + ((((a0 - (((a0.toUInt64 >>> ((1 : Int32).toInt64.toUInt64 &&& Int64.toUInt64 63)).toInt64) &&& (6148914691236517205 : Int64))).toUInt64 >>> ((2 : Int32).toInt64.toUInt64 &&& Int64.toUInt64 63)).toInt64) &&& (3689348814741910323 : Int64))).toUInt64 >>> ((4 : Int32).toInt64.toUInt64 &&& Int64.toUInt64 63)).toInt64)) &&& (1085102592571150095 : Int64)).toUInt64 >>> ((8 : Int32).toInt64.toUInt64 &&& Int64.toUInt64 63)).toInt64)).toUInt64 >>> ((16 : Int32).toInt64.toUInt64 &&& Int64.toUInt64 63)).toInt64)) + (((((((((a0 - (((a0.toUInt64 >>> ((1 : Int32).toInt64.toUInt64 &&& Int64.toUInt64 63)).toInt64) &&& (6148914691236517205 : Int64))) &&& (3689348814741910323 : Int64)) + ((((a0 - (((a0.toUInt64 >>> ((1 : Int32).toInt64.toUInt64 &&& Int64.toUInt64 63)).toInt64) &&& (6148914691236517205 : Int64))).toUInt64 >>> ((2 : Int32).toInt64.toUInt64 &&& Int64.toUInt64 63)).toInt64) &&& (3689348814741910323 : Int64))) + (((((a0 - (((a0.toUInt64 >>> ((1 : Int32).toInt64.toUInt64 &&& Int64.toUInt64 63)).toInt64) &&& (6148914691236517205 : Int64))) &&& (3689348814741910323 : Int64)) + ((((a0 - (((a0.toUInt64 >>> ((1 : Int32).toInt64.toUInt64 &&& Int64.toUInt64 63)).toInt64) &&& (6148914691236517205 : Int64))).toUInt64 >>> ((2 : Int32).toInt64.toUInt64 &&& Int64.toUInt64 63)).toInt64) &&& (3689348814741910323 : Int64))).toUInt64 >>> ((4 : Int32).toInt64.toUInt64 &&& Int64.toUInt64 63)).toInt64)) &&& (1085102592571150095 : Int64)) + (((((((a0 - (((a0.toUInt64 >>> ((1 : Int32).toInt64.toUInt64 &&& Int64.toUInt64 63)).toInt64) &&& (6148914691236517205 : Int64))) &&& (3689348814741910323 : Int64)) + ((((a0 - (((a0.toUInt64 >>> ((1 : Int32).toInt64.toUInt64 &&& Int64.toUInt64 63)).toInt64) &&& (6148914691236517205 : Int64))).toUInt64 >>> ((2 : Int32).toInt64.toUInt64 &&& Int64.toUInt64 63)).toInt64) &&& (3689348814741910323 : Int64))) + (((((a0 - (((a0.toUInt64 >>> ((1 : Int32).toInt64.toUInt64 &&& Int64.toUInt64 63)).toInt64) &&& (6148914691236517205 : Int64))) &&& (3689348814741910323 : Int64)) + ((((a0 - (((a0.toUInt64 >>> ((1 : Int32).toInt64.toUInt64 &&& Int64.toUInt64 63)).toInt64) &&& (6148914691236517205 : Int64))).toUInt64 >>> ((2 : Int32).toInt64.toUInt64 &&& Int64.toUInt64 63)).toInt64) &&& (3689348814741910323 : Int64))).toUInt64 >>> ((4 : Int32).toInt64.toUInt64 &&& Int64.toUInt64 63)).toInt64)) &&& (1085102592571150095 : Int64)).toUInt64 >>> ((8 : Int32).toInt64.toUInt64 &&& Int64.toUInt64 63)).toInt64)) + ((((((((a0 - (((a0.toUInt64 >>> ((1 : Int32).toInt64.toUInt64 &&& Int64.toUInt64 63)).toInt64) &&& (6148914691236517205 : Int64))) &&& (3689348814741910323 : Int64)) + ((((a0 - (((a0.toUInt64 >>> ((1 : Int32).toInt64.toUInt64 &&& Int64.toUInt64 63)).toInt64) &&& (6148914691236517205 : Int64))).toUInt64 >>> ((2 : Int32).toInt64.toUInt64 &&& Int64.toUInt64 63)).toInt64) &&& (3689348814741910323 : Int64))) + (((((a0 - (((a0.toUInt64 >>> ((1 : Int32).toInt64.toUInt64 &&& Int64.toUInt64 63)).toInt64) &&& (6148914691236517205 : Int64))) &&& (3689348814741910323 : Int64)) + ((((a0 - (((a0.toUInt64 >>> ((1 : Int32).toInt64.toUInt64 &&& Int64.toUInt64 63)).toInt64) &&& (6148914691236517205 : Int64))).toUInt64 >>> ((2 : Int32).toInt64.toUInt64 &&& Int64.toUInt64 63)).toInt64) &&& (3689348814741910323 : Int64))).toUInt64 >>> ((4 : Int32).toInt64.toUInt64 &&& Int64.toUInt64 63)).toInt64)) &&& (1085102592571150095 : Int64)) + (((((((a0 - (((a0.toUInt64 >>> ((1 : Int32).toInt64.toUInt64 &&& Int64.toUInt64 63)).toInt64) &&& (6148914691236517205 : Int64))) &&& (3689348814741910323 : Int64)) + ((((a0 - (((a0.toUInt64 >>> ((1 : Int32).toInt64.toUInt64 &&& Int64.toUInt64 63)).toInt64) &&& (6148914691236517205 : Int64))).toUInt64 >>> ((2 : Int32).toInt64.toUInt64 &&& Int64.toUInt64 63)).toInt64) &&& (3689348814741910323 : Int64))) + (((((a0 - (((a0.toUInt64 >>> ((1 : Int32).toInt64.toUInt64 &&& Int64.toUInt64 63)).toInt64) &&& (6148914691236517205 : Int64))) &&& (3689348814741910323 : Int64)) + ((((a0 - (((a0.toUInt64 >>> ((1 : Int32).toInt64.toUInt64 &&& Int64.toUInt64 63)).toInt64) &&& (6148914691236517205 : Int64))).toUInt64 >>> ((2 : Int32).toInt64.toUInt64 &&& Int64.toUInt64 63)).toInt64) &&& (3689348814741910323 : Int64))).toUInt64 >>> ((4 : Int32).toInt64.toUInt64 &&& Int64.toUInt64 63)).toInt64)) &&& (1085102592571150095 : Int64)).toUInt64 >>> ((8 : Int32).toInt64.toUInt64 &&& Int64.toUInt64 63)).toInt64)).toUInt64 >>> ((16 : Int32).toInt64.toUInt64 &&& Int64.toUInt64 63)).toInt64)).toUInt64 >>> ((32 : Int32).toInt64.toUInt64 &&& Int64.toUInt64 63)).toInt64)).toInt32) &&& (127 : Int32)) = res := (Option.some.inj hf)
  exact W.iret (v := ((((((((((a0 - (((a0.toUInt64 >>> ((1 : Int32).toInt64.toUInt64 &&& Int64.toUInt64 63)).toInt64) &&& (6148914691236517205 : Int64))) &&& (3689348814741910323 : Int64)) + ((((a0 - (((a0.toUInt64 >>> ((1 : Int32).toInt64.toUInt64 &&& Int64.toUInt64 63)).toInt64) &&& (6148914691236517205 : Int64))).toUInt64 >>> ((2 : Int32).toInt64.toUInt64 &&& Int64.toUInt64 63)).toInt64) &&& (3689348814741910323 : Int64))) + (((((a0 - (((a0.toUInt64 >>> ((1 : Int32).toInt64.toUInt64 &&& Int64.toUInt64 63)).toInt64) &&& (6148914691236517205 : Int64))) &&& (3689348814741910323 : Int64)) + ((((a0 - (((a0.toUInt64 >>> ((1 : Int32).toInt64.toUInt64 &&& Int64.toUInt64 63)).toInt64) &&& (6148914691236517205 : Int64))).toUInt64 >>> ((2 : Int32).toInt64.toUInt64 &&& Int64.toUInt64 63)).toInt64) &&& (3689348814741910323 : Int64))).toUInt64 >>> ((4 : Int32).toInt64.toUInt64 &&& Int64.toUInt64 63)).toInt64)) &&& (1085102592571150095 : Int64)) + (((((((a0 - (((a0.toUInt64 >>> ((1 : Int32).toInt64.toUInt64 &&& Int64.toUInt64 63)).toInt64) &&& (6148914691236517205 : Int64))) &&& (3689348814741910323 : Int64)) + ((((a0 - (((a0.toUInt64 >>> ((1 : Int32).toInt64.toUInt64 &&& Int64.toUInt64 63)).toInt64) &&& (6148914691236517205 : Int64))).toUInt64 >>> ((2 : Int32).toInt64.toUInt64 &&& Int64.toUInt64 63)).toInt64) &&& (3689348814741910323 : Int64))) + (((((a0 - (((a0.toUInt64 >>> ((1 : Int32).toInt64.toUInt64 &&& Int64.toUInt64 63)).toInt64) &&& (6148914691236517205 : Int64))) &&& (3689348814741910323 : Int64)) + ((((a0 - (((a0.toUInt64 >>> ((1 : Int32).toInt64.toUInt64 &&& Int64.toUInt64 63)).toInt64) &&& (6148914691236517205 : Int64))).toUInt64 >>> ((2 : Int32).toInt64.toUInt64 &&& Int64.toUInt64 63)).toInt64) &&& (3689348814741910323 : Int64))).toUInt64 >>> ((4 : Int32).toInt64.toUInt64 &&& Int64.toUInt64 63)).toInt64)) &&& (1085102592571150095 : Int64)).toUInt64 >>> ((8 : Int32).toInt64.toUInt64 &&& Int64.toUInt64 63)).toInt64)) + ((((((((a0 - (((a0.toUInt64 >>> ((1 : Int32).toInt64.toUInt64 &&& Int64.toUInt64 63)).toInt64) &&& (6148914691236517205 : Int64))) &&& (3689348814741910323 : Int64)) + ((((a0 - (((a0.toUInt64 >>> ((1 : Int32).toInt64.toUInt64 &&& Int64.toUInt64 63)).toInt64) &&& (6148914691236517205 : Int64))).toUInt64 >>> ((2 : Int32).toInt64.toUInt64 &&& Int64.toUInt64 63)).toInt64) &&& (3689348814741910323 : Int64))) + (((((a0 - (((a0.toUInt64 >>> ((1 : Int32).toInt64.toUInt64 &&& Int64.toUInt64 63)).toInt64) &&& (6148914691236517205 : Int64))) &&& (3689348814741910323 : Int64)) + ((((a0 - (((a0.toUInt64 >>> ((1 : Int32).toInt64.toUInt64 &&& Int64.toUInt64 63)).toInt64) &&& (6148914691236517205 : Int64))).toUInt64 >>> ((2 : Int32).toInt64.toUInt64 &&& Int64.toUInt64 63)).toInt64) &&& (3689348814741910323 : Int64))).toUInt64 >>> ((4 : Int32).toInt64.toUInt64 &&& Int64.toUInt64 63)).toInt64)) &&& (1085102592571150095 : Int64)) + (((((((a0 - (((a0.toUInt64 >>> ((1 : Int32).toInt64.toUInt64 &&& Int64.toUInt64 63)).toInt64) &&& (6148914691236517205 : Int64))) &&& (3689348814741910323 : Int64)) + ((((a0 - (((a0.toUInt64 >>> ((1 : Int32).toInt64.toUInt64 &&& Int64.toUInt64 63)).toInt64) &&& (6148914691236517205 : Int64))).toUInt64 >>> ((2 : Int32).toInt64.toUInt64 &&& Int64.toUInt64 63)).toInt64) &&& (3689348814741910323 : Int64))) + (((((a0 - (((a0.toUInt64 >>> ((1 : Int32).toInt64.toUInt64 &&& Int64.toUInt64 63)).toInt64) &&& (6148914691236517205 : Int64))) &&& (3689348814741910323 : Int64)) + ((((a0 - (((a0.toUInt64 >>> ((1 : Int32).toInt64.toUInt64 &&& Int64.toUInt64 63)).toInt64) &&& (6148914691236517205 : Int64))).toUInt64 >>> ((2 : Int32).toInt64.toUInt64 &&& Int64.toUInt64 63)).toInt64) &&& (3689348814741910323 : Int64))).toUInt64 >>> ((4 : Int32).toInt64.toUInt64 &&& Int64.toUInt64 63)).toInt64)) &&& (1085102592571150095 : Int64)).toUInt64 >>> ((8 : Int32).toInt64.toUInt64 &&& Int64.toUInt64 63)).toInt64)).toUInt64 >>> ((16 : Int32).toInt64.toUInt64 &&& Int64.toUInt64 63)).toInt64)) + (((((((((a0 - (((a0.toUInt64 >>> ((1 : Int32).toInt64.toUInt64 &&& Int64.toUInt64 63)).toInt64) &&& (6148914691236517205 : Int64))) &&& (3689348814741910323 : Int64)) + ((((a0 - (((a0.toUInt64 >>> ((1 : Int32).toInt64.toUInt64 &&& Int64.toUInt64 63)).toInt64) &&& (6148914691236517205 : Int64))).toUInt64 >>> ((2 : Int32).toInt64.toUInt64 &&& Int64.toUInt64 63)).toInt64) &&& (3689348814741910323 : Int64))) + (((((a0 - (((a0.toUInt64 >>> ((1 : Int32).toInt64.toUInt64 &&& Int64.toUInt64 63)).toInt64) &&& (6148914691236517205 : Int64))) &&& (3689348814741910323 : Int64)) + ((((a0 - (((a0.toUInt64 >>> ((1 : Int32).toInt64.toUInt64 &&& Int64.toUInt64 63)).toInt64) &&& (6148914691236517205 : Int64))).toUInt64 >>> ((2 : Int32).toInt64.toUInt64 &&& Int64.toUInt64 63)).toInt64) &&& (3689348814741910323 : Int64))).toUInt64 >>> ((4 : Int32).toInt64.toUInt64 &&& Int64.toUInt64 63)).toInt64)) &&& (1085102592571150095 : Int64)) + (((((((a0 - (((a0.toUInt64 >>> ((1 : Int32).toInt64.toUInt64 &&& Int64.toUInt64 63)).toInt64) &&& (6148914691236517205 : Int64))) &&& (3689348814741910323 : Int64)) + ((((a0 - (((a0.toUInt64 >>> ((1 : Int32).toInt64.toUInt64 &&& Int64.toUInt64 63)).toInt64) &&& (6148914691236517205 : Int64))).toUInt64 >>> ((2 : Int32).toInt64.toUInt64 &&& Int64.toUInt64 63)).toInt64) &&& (3689348814741910323 : Int64))) + (((((a0 - (((a0.toUInt64 >>> ((1 : Int32).toInt64.toUInt64 &&& Int64.toUInt64 63)).toInt64) &&& (6148914691236517205 : Int64))) &&& (3689348814741910323 : Int64)) + ((((a0 - (((a0.toUInt64 >>> ((1 : Int32).toInt64.toUInt64 &&& Int64.toUInt64 63)).toInt64) &&& (6148914691236517205 : Int64))).toUInt64 >>> ((2 : Int32).toInt64.toUInt64 &&& Int64.toUInt64 63)).toInt64) &&& (3689348814741910323 : Int64))).toUInt64 >>> ((4 : Int32).toInt64.toUInt64 &&& Int64.toUInt64 63)).toInt64)) &&& (1085102592571150095 : Int64)).toUInt64 >>> ((8 : Int32).toInt64.toUInt64 &&& Int64.toUInt64 63)).toInt64)) + ((((((((a0 - (((a0.toUInt64 >>> ((1 : Int32).toInt64.toUInt64 &&& Int64.toUInt64 63)).toInt64) &&& (6148914691236517205 : Int64))) &&& (3689348814741910323 : Int64)) + ((((a0 - (((a0.toUInt64 >>> ((1 : Int32).toInt64.toUInt64 &&& Int64.toUInt64 63)).toInt64) &&& (6148914691236517205 : Int64))).toUInt64 >>> ((2 : Int32).toInt64.toUInt64 &&& Int64.toUInt64 63)).toInt64) &&& (3689348814741910323 : Int64))) + (((((a0 - (((a0.toUInt64 >>> ((1 : Int32).toInt64.toUInt64 &&& Int64.toUInt64 63)).toInt64) &&& (6148914691236517205 : Int64))) &&& (3689348814741910323 : Int64)) + ((((a0 - (((a0.toUInt64 >>> ((1 : Int32).toInt64.toUInt64 &&& Int64.toUInt64 63)).toInt64) &&& (6148914691236517205 : Int64))).toUInt64 >>> ((2 : Int32).toInt64.toUInt64 &&& Int64.toUInt64 63)).toInt64) &&& (3689348814741910323 : Int64))).toUInt64 >>> ((4 : Int32).toInt64.toUInt64 &&& Int64.toUInt64 63)).toInt64)) &&& (1085102592571150095 : Int64)) + (((((((a0 - (((a0.toUInt64 >>> ((1 : Int32).toInt64.toUInt64 &&& Int64.toUInt64 63)).toInt64) &&& (6148914691236517205 : Int64))) &&& (3689348814741910323 : Int64)) + ((((a0 - (((a0.toUInt64 >>> ((1 : Int32).toInt64.toUInt64 &&& Int64.toUInt64 63)).toInt64) &&& (6148914691236517205 : Int64))).toUInt64 >>> ((2 : Int32).toInt64.toUInt64 &&& Int64.toUInt64 63)).toInt64) &&& (3689348814741910323 : Int64))) + (((((a0 - (((a0.toUInt64 >>> ((1 : Int32).toInt64.toUInt64 &&& Int64.toUInt64 63)).toInt64) &&& (6148914691236517205 : Int64))) &&& (3689348814741910323 : Int64)) + ((((a0 - (((a0.toUInt64 >>> ((1 : Int32).toInt64.toUInt64 &&& Int64.toUInt64 63)).toInt64) &&& (6148914691236517205 : Int64))).toUInt64 >>> ((2 : Int32).toInt64.toUInt64 &&& Int64.toUInt64 63)).toInt64) &&& (3689348814741910323 : Int64))).toUInt64 >>> ((4 : Int32).toInt64.toUInt64 &&& Int64.toUInt64 63)).toInt64)) &&& (1085102592571150095 : Int64)).toUInt64 >>> ((8 : Int32).toInt64.toUInt64 &&& Int64.toUInt64 63)).toInt64)).toUInt64 >>> ((16 : Int32).toInt64.toUInt64 &&& Int64.toUInt64 63)).toInt64)).toUInt64 >>> ((32 : Int32).toInt64.toUInt64 &&& Int64.toUInt64 63)).toInt64)).toInt32) &&& (127 : Int32))) hx hb hr (fun t ht hW => ⟨congrArg (fun z => Outcome.returned (some (Value.int z))) hres, trivial, ht⟩) t_nil dJ13_bitCount_95d88_60
set_option maxHeartbeats 4000000 in
set_option maxRecDepth 100000 in
theorem ct_X2_sownAt (l : Launch) (n : Nat) (g : GC) (σ : CS) (k : Nat) (hk : k < 3) (f_paths : Nat → Int32) (f_water : Int64) (f_wall : Int64) (f_kind : Nat → Int32) (f_place : Nat → Int32) (f_facing : Nat → Int32) (f_age : Nat → Int32) (f_seeds : Int32) (f_season : Int32) (f_z : Int32) (f_spots : Nat → Int32) (he : σ.1 k = (f_paths, f_water, f_wall, f_kind, f_place, f_facing, f_age, f_seeds, f_season, f_z, f_spots)) (a1 : Int32) (res : Option Nat) (hf : fX2_sownAt n a1 = some res) : Met l yX2_sownAt wsX2_sownAt ({ frames := 0, cells := 0, slots := 0, locals := 0 }) (va_Pc [.ref (ga g (1 + k)), .int a1] (cI g σ)) (qS (some (va_rf (Option.map (fun j => ga g (25 + 8 * k + j)) res))) (∀ j', res = some j' → j' < 8)) 0 0 (fun _ => False) := by
  refine Met.ofW (cc := cX2_sownAt) (maxL := 2) (ret := (some (.object "SownPaths$Seed"))) (by decide) rfl ?_
  intro p e s m args below meth c s₁ B hml hv
  obtain ⟨rfl, hI⟩ := hv
  have hx := B.exec
  have hb := B.bytes
  have hr := B.returns
  have hts := atoms_spec (ws := wsX2_sownAt) B.pre
  have hown : s.vm.findClass RX2 = some m.cls := findClass_of_methodNamed B.named
  have hlocks := B.notSynchronized
  have hP := hI.1
  have hB := hI.2
  have hK := hB.1
  have hNW := hB.2.1
  have hS : va_S (gA g) s.heap s.heap [] := va_S.rf
  have hw0 := hts (.fieldLink RX2 24 "SownPaths$Park" "sown" "[LSownPaths$Seed;") (by decide +kernel)
  have iwX2 : ∀ w ∈ wsX20, w ∈ wsX2_sownAt := fun w h => List.mem_cons_of_mem _ (List.mem_append_right _ h)
  have hl := lv_entry ([.ref (ga g (1 + k)), .int a1]) (n := 2) (Nat.le_of_ble_eq_true rfl)
  rw [lg_entry_eq]
  generalize (lg_sl ([.ref (ga g (1 + k)), .int a1]) ++ List.replicate (2 - (lg_sl ([.ref (ga g (1 + k)), .int a1])).length) Slot.unset).toArray = ls at hl ⊢
  have hl : lv_has ls 2 [(0, .ref (ga g (1 + k))), (1, .int a1)] := hl
  unfold fX2_sownAt at hf
  refine lv_iload_n hx hb dX2_sownAt_0 rfl (lv_at hl 1 rfl) ?_
  refine lv_if_lt (tgt := 22) hx hb dX2_sownAt_1 (by decide) (fun hc1 => ?_) (fun hc1 => ?_)
  · have hf := (if_pos hc1).symm.trans hf
    refine lv_null hx hb dX2_sownAt_22 ?_
    have hres : none = res := (Option.some.inj hf)
    have hfa : ∀ j', none = some j' → j' < 8 := fun _ h => by cases h
    exact W.aret (v := .null) hx hb hr (Or.inl ⟨_, rfl⟩) (Or.inl rfl) (fun t ht hW => ⟨congrArg (fun z => Outcome.returned (some (va_rf (Option.map (fun j => ga g (25 + 8 * k + j)) z)))) hres, Eq.mp (congrArg (fun z => ∀ j', z = some j' → j' < 8) hres) hfa, ht⟩) t_nil dX2_sownAt_23
  · have hf := (if_neg hc1).symm.trans hf
    refine lv_iload_n hx hb dX2_sownAt_4 rfl (lv_at hl 1 rfl) ?_
    refine lv_aload_n hx hb dX2_sownAt_5 rfl (lv_at hl 0 rfl) ?_
    refine va_get (D := g.1) (ci := 0) (v := .ref (ga g (19 + k))) (C := RX2) (T := TX2) (N := 8) hx hb hts iwX2 hown hK hP (1 + k) (e_pk hk he (Q := (f_paths, f_water, f_wall, f_kind, f_place, f_facing, f_age, f_seeds, f_season, f_z, f_spots))) rfl 3 (by decide) hw0 (fun _ h9 => h9) rfl dX2_sownAt_6 ?_
    refine va_alen (v := (8 : Int32)) hx hb hK hP (19 + k) 1 (q_sw hk) rfl rfl dX2_sownAt_9 ?_
    refine lv_icmp_ge (tgt := 22) hx hb dX2_sownAt_10 (by decide) (fun hc2 => ?_) (fun hc2 => ?_)
    · have hf := (if_pos hc2).symm.trans hf
      refine lv_null hx hb dX2_sownAt_22 ?_
      have hres : none = res := (Option.some.inj hf)
      have hfa : ∀ j', none = some j' → j' < 8 := fun _ h => by cases h
      exact W.aret (v := .null) hx hb hr (Or.inl ⟨_, rfl⟩) (Or.inl rfl) (fun t ht hW => ⟨congrArg (fun z => Outcome.returned (some (va_rf (Option.map (fun j => ga g (25 + 8 * k + j)) z)))) hres, Eq.mp (congrArg (fun z => ∀ j', z = some j' → j' < 8) hres) hfa, ht⟩) t_nil dX2_sownAt_23
    · have hf := (if_neg hc2).symm.trans hf
      refine lv_aload_n hx hb dX2_sownAt_13 rfl (lv_at hl 0 rfl) ?_
      refine va_get (D := g.1) (ci := 0) (v := .ref (ga g (19 + k))) (C := RX2) (T := TX2) (N := 8) hx hb hts iwX2 hown hK hP (1 + k) (e_pk hk he (Q := (f_paths, f_water, f_wall, f_kind, f_place, f_facing, f_age, f_seeds, f_season, f_z, f_spots))) rfl 3 (by decide) hw0 (fun _ h9 => h9) rfl dX2_sownAt_14 ?_
      refine lv_iload_n hx hb dX2_sownAt_17 rfl (lv_at hl 1 rfl) ?_
      obtain ⟨hg3, hf⟩ := gd_some hf
      have hj4 := vi_lt hg3
      refine va_aldq (f := (fun j => some (ga g (25 + 8 * k + j)))) hx hb hK hP (19 + k) 1 (q_sw hk) rfl hg3 dX2_sownAt_18 ?_
      refine W.eq (g2 := F0 m 19 ls [.ref (ga g (25 + 8 * k + a1.toNatClampNeg))]) rfl ?_
      refine lv_goto (tgt := 23) hx hb dX2_sownAt_19 (by decide) ?_
      have hres : (some a1.toNatClampNeg) = res := (Option.some.inj hf)
      have hfa : ∀ j', (some a1.toNatClampNeg) = some j' → j' < 8 := fun _ h => Option.some.inj h ▸ hj4
      exact W.aret (v := .ref (ga g (25 + 8 * k + a1.toNatClampNeg))) hx hb hr (Or.inl ⟨_, rfl⟩) (Or.inr ⟨_, rfl⟩) (fun t ht hW => ⟨congrArg (fun z => Outcome.returned (some (va_rf (Option.map (fun j => ga g (25 + 8 * k + j)) z)))) hres, Eq.mp (congrArg (fun z => ∀ j', z = some j' → j' < 8) hres) hfa, ht⟩) t_nil dX2_sownAt_23
set_option maxHeartbeats 4000000 in
set_option maxRecDepth 100000 in
theorem ct_X2_seedAt (l : Launch) (n : Nat) (g : GC) (σ : CS) (k : Nat) (hk : k < 3) (f_paths : Nat → Int32) (f_water : Int64) (f_wall : Int64) (f_kind : Nat → Int32) (f_place : Nat → Int32) (f_facing : Nat → Int32) (f_age : Nat → Int32) (f_seeds : Int32) (f_season : Int32) (f_z : Int32) (f_spots : Nat → Int32) (he : σ.1 k = (f_paths, f_water, f_wall, f_kind, f_place, f_facing, f_age, f_seeds, f_season, f_z, f_spots)) (a1 : Int32) (res : Option Nat) (hf : fX2_seedAt n a1 f_seeds = some res) : Met l yX2_seedAt wsX2_seedAt ({ frames := 1, cells := 0, slots := 0, locals := 21 }) (va_Pc [.ref (ga g (1 + k)), .int a1] (cI g σ)) (qS (some (va_rf (Option.map (fun j => ga g (25 + 8 * k + j)) res))) (∀ j', res = some j' → j' < 8)) 0 0 (fun _ => False) := by
  refine Met.ofW (cc := cX2_seedAt) (maxL := 2) (ret := (some (.object "SownPaths$Seed"))) (by decide) rfl ?_
  intro p e s m args below meth c s₁ B hml hv
  obtain ⟨rfl, hI⟩ := hv
  have hx := B.exec
  have hb := B.bytes
  have hr := B.returns
  have hts := atoms_spec (ws := wsX2_seedAt) B.pre
  have hown : s.vm.findClass RX2 = some m.cls := findClass_of_methodNamed B.named
  have hlocks := B.notSynchronized
  have hP := hI.1
  have hB := hI.2
  have hK := hB.1
  have hNW := hB.2.1
  have hS : va_S (gA g) s.heap s.heap [] := va_S.rf
  have hw0 := hts (.fieldLink RX2 48 "SownPaths$Park" "seeds" "I") (by decide +kernel)
  have iwX2 : ∀ w ∈ wsX20, w ∈ wsX2_seedAt := fun w h => List.mem_cons_of_mem _ (List.mem_append_right _ h)
  have hl := lv_entry ([.ref (ga g (1 + k)), .int a1]) (n := 2) (Nat.le_of_ble_eq_true rfl)
  rw [lg_entry_eq]
  generalize (lg_sl ([.ref (ga g (1 + k)), .int a1]) ++ List.replicate (2 - (lg_sl ([.ref (ga g (1 + k)), .int a1])).length) Slot.unset).toArray = ls at hl ⊢
  have hl : lv_has ls 2 [(0, .ref (ga g (1 + k))), (1, .int a1)] := hl
  unfold fX2_seedAt at hf
  refine lv_iload_n hx hb dX2_seedAt_0 rfl (lv_at hl 1 rfl) ?_
  refine lv_aload_n hx hb dX2_seedAt_1 rfl (lv_at hl 0 rfl) ?_
  refine va_get (D := g.1) (ci := 0) (v := .int f_seeds) (C := RX2) (T := TX2) (N := 8) hx hb hts iwX2 hown hK hP (1 + k) (e_pk hk he (Q := (f_paths, f_water, f_wall, f_kind, f_place, f_facing, f_age, f_seeds, f_season, f_z, f_spots))) rfl 4 (by decide) hw0 (fun _ h9 => h9) rfl dX2_seedAt_2 ?_
  refine lv_icmp_ge (tgt := 16) hx hb dX2_seedAt_5 (by decide) (fun hc1 => ?_) (fun hc1 => ?_)
  · have hf := (if_pos hc1).symm.trans hf
    refine lv_null hx hb dX2_seedAt_16 ?_
    have hres : none = res := (Option.some.inj hf)
    have hfa : ∀ j', none = some j' → j' < 8 := fun _ h => by cases h
    exact W.aret (v := .null) hx hb hr (Or.inl ⟨_, rfl⟩) (Or.inl rfl) (fun t ht hW => ⟨congrArg (fun z => Outcome.returned (some (va_rf (Option.map (fun j => ga g (25 + 8 * k + j)) z)))) hres, Eq.mp (congrArg (fun z => ∀ j', z = some j' → j' < 8) hres) hfa, ht⟩) t_nil dX2_seedAt_17
  · have hf := (if_neg hc1).symm.trans hf
    refine lv_aload_n hx hb dX2_seedAt_8 rfl (lv_at hl 0 rfl) ?_
    refine lv_iload_n hx hb dX2_seedAt_9 rfl (lv_at hl 1 rfl) ?_
    obtain ⟨q2, hq2, hf⟩ := bd_some hf
    refine kr_S (st1 := [va_rf (Option.map (fun j => ga g (25 + 8 * k + j)) q2)]) (va_runV (As := [.int a1]) (rest := []) ⟨hx, hb, hml, hown, hts⟩ (ct_X2_sownAt l n g σ k hk f_paths f_water f_wall f_kind f_place f_facing f_age f_seeds f_season f_z f_spots he a1 q2 hq2) (cwV 1 hts gX2_seedAt_X2_sownAt rfl rfl rfl hd_X2_sownAt ⟨Nat.le_of_ble_eq_true rfl, Nat.le_of_ble_eq_true rfl⟩) ⟨bl_C, va_recv hK hP (ci := 0) (q0 := (1 + k)) rfl (e_pk hk he (Q := (f_paths, f_water, f_wall, f_kind, f_place, f_facing, f_age, f_seeds, f_season, f_z, f_spots))), pr_C rfl hB hP hS⟩ rfl rfl hl.1 rfl (lv_room (Nat.le_of_ble_eq_true rfl)) dX2_seedAt_10 ⟨Nat.le_refl _, Nat.le_refl _⟩) rfl (fun hn3 => ?_)
    rcases q2 with _ | j4
    · have hf := eo_n hf
      refine W.eq (g2 := F0 m 13 ls [.null]) rfl ?_
      refine lv_goto (tgt := 17) hx hb dX2_seedAt_13 (by decide) ?_
      have hres : none = res := (Option.some.inj hf)
      have hfa : ∀ j', none = some j' → j' < 8 := fun _ h => by cases h
      exact W.aret (v := .null) hx hb hr (Or.inl ⟨_, rfl⟩) (Or.inl rfl) (fun t ht hW => ⟨congrArg (fun z => Outcome.returned (some (va_rf (Option.map (fun j => ga g (25 + 8 * k + j)) z)))) hres, Eq.mp (congrArg (fun z => ∀ j', z = some j' → j' < 8) hres) hfa, ht⟩) t_nil dX2_seedAt_17
    · have hf := eo_s hf
      have hj5 := hn3 _ rfl
      refine W.eq (g2 := F0 m 13 ls [.ref (ga g (25 + 8 * k + j4))]) rfl ?_
      refine lv_goto (tgt := 17) hx hb dX2_seedAt_13 (by decide) ?_
      have hres : (some j4) = res := (Option.some.inj hf)
      have hfa : ∀ j', (some j4) = some j' → j' < 8 := fun _ h => Option.some.inj h ▸ hj5
      exact W.aret (v := .ref (ga g (25 + 8 * k + j4))) hx hb hr (Or.inl ⟨_, rfl⟩) (Or.inr ⟨_, rfl⟩) (fun t ht hW => ⟨congrArg (fun z => Outcome.returned (some (va_rf (Option.map (fun j => ga g (25 + 8 * k + j)) z)))) hres, Eq.mp (congrArg (fun z => ∀ j', z = some j' → j' < 8) hres) hfa, ht⟩) t_nil dX2_seedAt_17
set_option maxHeartbeats 4000000 in
set_option maxRecDepth 100000 in
theorem ct_X2_headsOn (l : Launch) (n : Nat) (g : GC) (σ : CS) (k : Nat) (hk : k < 3) (f_paths : Nat → Int32) (f_water : Int64) (f_wall : Int64) (f_kind : Nat → Int32) (f_place : Nat → Int32) (f_facing : Nat → Int32) (f_age : Nat → Int32) (f_seeds : Int32) (f_season : Int32) (f_z : Int32) (f_spots : Nat → Int32) (he : σ.1 k = (f_paths, f_water, f_wall, f_kind, f_place, f_facing, f_age, f_seeds, f_season, f_z, f_spots)) (a1 : Int32) (res : Int32) (hf : fX2_headsOn n a1 f_place f_seeds = some res) : Met l yX2_headsOn wsX2_headsOn ({ frames := 2, cells := 0, slots := 0, locals := 42 }) (va_Pc [.ref (ga g (1 + k)), .int a1] (cI g σ)) (qS (some (.int res)) True) 0 0 (fun _ => False) := by
  refine Met.ofW (cc := cX2_headsOn) (maxL := 5) (ret := (some .int)) (by decide) rfl ?_
  intro p e s m args below meth c s₁ B hml hv
  obtain ⟨rfl, hI⟩ := hv
  have hx := B.exec
  have hb := B.bytes
  have hr := B.returns
  have hts := atoms_spec (ws := wsX2_headsOn) B.pre
  have hown : s.vm.findClass RX2 = some m.cls := findClass_of_methodNamed B.named
  have hlocks := B.notSynchronized
  have hP := hI.1
  have hB := hI.2
  have hK := hB.1
  have hNW := hB.2.1
  have hS : va_S (gA g) s.heap s.heap [] := va_S.rf
  have hw0 := hts (.fieldLink RX2 48 "SownPaths$Park" "seeds" "I") (by decide +kernel)
  have iwX2 : ∀ w ∈ wsX20, w ∈ wsX2_headsOn := fun w h => List.mem_cons_of_mem _ (List.mem_append_left _ (List.mem_append_right _ h))
  have iwX3 : ∀ w ∈ wsX30, w ∈ wsX2_headsOn := fun w h => List.mem_cons_of_mem _ (List.mem_append_right _ h)
  have hl := lv_entry ([.ref (ga g (1 + k)), .int a1]) (n := 5) (Nat.le_of_ble_eq_true rfl)
  rw [lg_entry_eq]
  generalize (lg_sl ([.ref (ga g (1 + k)), .int a1]) ++ List.replicate (5 - (lg_sl ([.ref (ga g (1 + k)), .int a1])).length) Slot.unset).toArray = ls at hl ⊢
  have hl : lv_has ls 5 [(0, .ref (ga g (1 + k))), (1, .int a1)] := hl
  unfold fX2_headsOn at hf
  refine lv_iconst (v := (0 : Int32)) hx hb dX2_headsOn_0 (by decide) ?_
  refine lv_istore_n (lv' := [(2, .int (0 : Int32)), (0, .ref (ga g (1 + k))), (1, .int a1)]) hx hb dX2_headsOn_1 rfl hl (by decide) rfl (fun ls hl => ?_)
  refine lv_iconst (v := (0 : Int32)) hx hb dX2_headsOn_2 (by decide) ?_
  refine lv_istore_n (lv' := [(3, .int (0 : Int32)), (2, .int (0 : Int32)), (0, .ref (ga g (1 + k))), (1, .int a1)]) hx hb dX2_headsOn_3 rfl hl (by decide) rfl (fun ls hl => ?_)
  refine lp_run hf (fun s1 => ∀ (ls : Array Slot), lv_has ls 5 [(0, .ref (ga g (1 + k))), (1, .int a1), (2, .int s1.1), (3, .int s1.2)] → W p l e (headSpec wsX2_headsOn ({ frames := 2, cells := 0, slots := 0, locals := 42 })).room s m ([.ref (ga g (1 + k)), .int a1] : List Value).toArray below meth c s.heap [] 0 0 (MQ below (qS (some (.int res)) True) ([.ref (ga g (1 + k)), .int a1] : List Value).toArray s 0 0 (fun _ => False)) (F0 m 4 ls [])) (fun v2 => ∀ (ls : Array Slot), lv_has ls 5 [(2, .int v2.1)] → W p l e (headSpec wsX2_headsOn ({ frames := 2, cells := 0, slots := 0, locals := 42 })).room s m ([.ref (ga g (1 + k)), .int a1] : List Value).toArray below meth c s.heap [] 0 0 (MQ below (qS (some (.int res)) True) ([.ref (ga g (1 + k)), .int a1] : List Value).toArray s 0 0 (fun _ => False)) (F0 m 45 ls [])) ?_ ?_ _ (lv_sub hl [2, 3, 1, 0] rfl)
  · intro v2 hf ls hl
    refine lv_iload_n hx hb dX2_headsOn_45 rfl (lv_at hl 0 rfl) ?_
    have hres : v2.1 = res := (Option.some.inj hf)
    exact W.iret (v := v2.1) hx hb hr (fun t ht hW => ⟨congrArg (fun z => Outcome.returned (some (Value.int z))) hres, trivial, ht⟩) t_nil dX2_headsOn_46
  · intro s1 r1 hf hback1 hexit1 ls hl
    refine lv_iload_n hx hb dX2_headsOn_4 rfl (lv_at hl 3 rfl) ?_
    refine lv_aload_n hx hb dX2_headsOn_5 rfl (lv_at hl 0 rfl) ?_
    refine va_get (D := g.1) (ci := 0) (v := .int f_seeds) (C := RX2) (T := TX2) (N := 8) hx hb hts iwX2 hown hK hP (1 + k) (e_pk hk he (Q := (f_paths, f_water, f_wall, f_kind, f_place, f_facing, f_age, f_seeds, f_season, f_z, f_spots))) rfl 4 (by decide) hw0 (fun _ h9 => h9) rfl dX2_headsOn_6 ?_
    refine lv_icmp_ge (tgt := 45) hx hb dX2_headsOn_9 (by decide) (fun hc3 => ?_) (fun hc3 => ?_)
    · have hf := (if_pos hc3).symm.trans hf
      exact hexit1 (s1.1, s1.2) (Option.some.inj hf).symm ls (lv_sub hl [2] rfl)
    · have hf := (if_neg hc3).symm.trans hf
      refine lv_aload_n hx hb dX2_headsOn_12 rfl (lv_at hl 0 rfl) ?_
      refine lv_iload_n hx hb dX2_headsOn_13 rfl (lv_at hl 3 rfl) ?_
      obtain ⟨q4, hq4, hf⟩ := bd_some hf
      refine kr_S (st1 := [va_rf (Option.map (fun j => ga g (25 + 8 * k + j)) q4)]) (va_runV (As := [.int s1.2]) (rest := []) ⟨hx, hb, hml, hown, hts⟩ (ct_X2_seedAt l n g σ k hk f_paths f_water f_wall f_kind f_place f_facing f_age f_seeds f_season f_z f_spots he s1.2 q4 hq4) (cwV 1 hts gX2_headsOn_X2_seedAt rfl rfl rfl hd_X2_seedAt ⟨Nat.le_of_ble_eq_true rfl, Nat.le_of_ble_eq_true rfl⟩) ⟨bl_C, va_recv hK hP (ci := 0) (q0 := (1 + k)) rfl (e_pk hk he (Q := (f_paths, f_water, f_wall, f_kind, f_place, f_facing, f_age, f_seeds, f_season, f_z, f_spots))), pr_C rfl hB hP hS⟩ rfl rfl hl.1 rfl (lv_room (Nat.le_of_ble_eq_true rfl)) dX2_headsOn_14 ⟨Nat.le_refl _, Nat.le_refl _⟩) rfl (fun hn5 => ?_)
      rcases q4 with _ | j6
      · have hf := eo_n hf
        refine W.eq (g2 := F0 m 17 ls [.null]) rfl ?_
        refine lv_astoreN (lv' := [(4, .null), (0, .ref (ga g (1 + k))), (1, .int a1), (2, .int s1.1), (3, .int s1.2)]) hx hb dX2_headsOn_17 hl (by decide) rfl (fun ls hl => ?_)
        refine lv_aloadN hx hb dX2_headsOn_19 (lv_at hl 0 rfl) ?_
        refine lv_ifnullN (tgt := 39) hx hb dX2_headsOn_21 (by decide) ?_
        refine lv_iinc (v := (s1.2 + (1 : Int32))) (lv' := [(3, .int (s1.2 + (1 : Int32))), (4, .null), (0, .ref (ga g (1 + k))), (1, .int a1), (2, .int s1.1)]) hx hb dX2_headsOn_39 hl (k := 4) rfl (congrArg (fun y => s1.2 + y) (by decide : Int32.ofInt (1) = (1 : Int32))) (by decide) rfl (fun ls hl => ?_)
        refine lv_goto (tgt := 4) hx hb dX2_headsOn_42 (by decide) ?_
        exact hback1 _ (Option.some.inj hf).symm ls (lv_sub hl [2, 3, 4, 0] rfl)
      · have hf := eo_s hf
        have hj7 := hn5 _ rfl
        refine W.eq (g2 := F0 m 17 ls [.ref (ga g (25 + 8 * k + j6))]) rfl ?_
        refine lv_astore (lv' := [(4, .ref (ga g (25 + 8 * k + j6))), (0, .ref (ga g (1 + k))), (1, .int a1), (2, .int s1.1), (3, .int s1.2)]) hx hb dX2_headsOn_17 hl (by decide) rfl (fun ls hl => ?_)
        refine lv_aload hx hb dX2_headsOn_19 (lv_at hl 0 rfl) ?_
        refine lv_ifnull hx hb dX2_headsOn_21 ?_
        refine lv_aload hx hb dX2_headsOn_24 (lv_at hl 0 rfl) ?_
        refine va_getN (D := g.1) (ci := 1) (v := .int (f_place j6)) (C := RX3) (T := TX3) (N := 4) hx hb hts iwX3 hown hK hP (25 + 8 * k + j6) (e_sd hk hj7 he (Q := (f_paths, f_water, f_wall, f_kind, f_place, f_facing, f_age, f_seeds, f_season, f_z, f_spots))) rfl 1 (by decide) (nf_X2_68 hNW) (fun _ h9 => h9) rfl dX2_headsOn_26 ?_
        refine lv_iload_n hx hb dX2_headsOn_29 rfl (lv_at hl 2 rfl) ?_
        refine lv_icmp_ne (tgt := 39) hx hb dX2_headsOn_30 (by decide) (fun hc8 => ?_) (fun hc8 => ?_)
        · have hf := (if_neg hc8).symm.trans hf
          refine lv_iinc (v := (s1.2 + (1 : Int32))) (lv' := [(3, .int (s1.2 + (1 : Int32))), (4, .ref (ga g (25 + 8 * k + j6))), (0, .ref (ga g (1 + k))), (1, .int a1), (2, .int s1.1)]) hx hb dX2_headsOn_39 hl (k := 4) rfl (congrArg (fun y => s1.2 + y) (by decide : Int32.ofInt (1) = (1 : Int32))) (by decide) rfl (fun ls hl => ?_)
          refine lv_goto (tgt := 4) hx hb dX2_headsOn_42 (by decide) ?_
          exact hback1 _ (Option.some.inj hf).symm ls (lv_sub hl [2, 3, 4, 0] rfl)
        · have hf := (if_pos hc8).symm.trans hf
          refine lv_iload_n hx hb dX2_headsOn_33 rfl (lv_at hl 3 rfl) ?_
          refine lv_iconst (v := (1 : Int32)) hx hb dX2_headsOn_34 (by decide) ?_
          refine lv_iload_n hx hb dX2_headsOn_35 rfl (lv_at hl 4 rfl) ?_
          refine lv_ishl hx hb dX2_headsOn_36 ?_
          refine lv_ior hx hb dX2_headsOn_37 ?_
          refine lv_istore_n (lv' := [(2, .int (s1.1 ||| ((1 : Int32) <<< (s1.2 &&& 31)))), (4, .ref (ga g (25 + 8 * k + j6))), (0, .ref (ga g (1 + k))), (1, .int a1), (3, .int s1.2)]) hx hb dX2_headsOn_38 rfl hl (by decide) rfl (fun ls hl => ?_)
          refine lv_iinc (v := (s1.2 + (1 : Int32))) (lv' := [(3, .int (s1.2 + (1 : Int32))), (2, .int (s1.1 ||| ((1 : Int32) <<< (s1.2 &&& 31)))), (4, .ref (ga g (25 + 8 * k + j6))), (0, .ref (ga g (1 + k))), (1, .int a1)]) hx hb dX2_headsOn_39 hl (k := 4) rfl (congrArg (fun y => s1.2 + y) (by decide : Int32.ofInt (1) = (1 : Int32))) (by decide) rfl (fun ls hl => ?_)
          refine lv_goto (tgt := 4) hx hb dX2_headsOn_42 (by decide) ?_
          exact hback1 _ (Option.some.inj hf).symm ls (lv_sub hl [3, 4, 1, 0] rfl)
set_option maxHeartbeats 4000000 in
set_option maxRecDepth 100000 in
theorem ct_X6_cell (l : Launch) (n : Nat) (g : GC) (p0_paths : Nat → Int32) (p0_water : Int64) (p0_wall : Int64) (p0_kind : Nat → Int32) (p0_place : Nat → Int32) (p0_facing : Nat → Int32) (p0_age : Nat → Int32) (p0_seeds : Int32) (p0_season : Int32) (p0_z : Int32) (p0_spots : Nat → Int32) (p1_paths : Nat → Int32) (p1_water : Int64) (p1_wall : Int64) (p1_kind : Nat → Int32) (p1_place : Nat → Int32) (p1_facing : Nat → Int32) (p1_age : Nat → Int32) (p1_seeds : Int32) (p1_season : Int32) (p1_z : Int32) (p1_spots : Nat → Int32) (p2_paths : Nat → Int32) (p2_water : Int64) (p2_wall : Int64) (p2_kind : Nat → Int32) (p2_place : Nat → Int32) (p2_facing : Nat → Int32) (p2_age : Nat → Int32) (p2_seeds : Int32) (p2_season : Int32) (p2_z : Int32) (p2_spots : Nat → Int32) (t_bytes : Nat → Int32) (t_length : Int32) (t_sort : Int32) (t_start : Int32) (t_end : Int32) (t_value : Int32) (h_numbers : Nat → Nat → Int32) (h_bits : Nat → Int32) (h_size : Nat → Int32) (w_isKept : Int32) (w_told : Nat → Int32) (a1 : Int32) (a2 : Int32) (res : Int32 × (Nat → Int32)) (hf : fX6_cell n a1 a2 p0_paths p0_water p0_wall p0_place p0_seeds w_told = some res) : Met l yX6_cell wsX6_cell ({ frames := 3, cells := 0, slots := 0, locals := 66 }) (va_Pc [.ref (ga g 0), .int a1, .int a2] (cI g (pk3 (p0_paths, p0_water, p0_wall, p0_kind, p0_place, p0_facing, p0_age, p0_seeds, p0_season, p0_z, p0_spots) (p1_paths, p1_water, p1_wall, p1_kind, p1_place, p1_facing, p1_age, p1_seeds, p1_season, p1_z, p1_spots) (p2_paths, p2_water, p2_wall, p2_kind, p2_place, p2_facing, p2_age, p2_seeds, p2_season, p2_z, p2_spots), w_isKept, (t_bytes, t_length, t_sort, t_start, t_end, t_value), (h_numbers, h_bits, h_size), w_told))) (qW (some (.int res.1)) True g.1 (cw g (pk3 (p0_paths, p0_water, p0_wall, p0_kind, p0_place, p0_facing, p0_age, p0_seeds, p0_season, p0_z, p0_spots) (p1_paths, p1_water, p1_wall, p1_kind, p1_place, p1_facing, p1_age, p1_seeds, p1_season, p1_z, p1_spots) (p2_paths, p2_water, p2_wall, p2_kind, p2_place, p2_facing, p2_age, p2_seeds, p2_season, p2_z, p2_spots), w_isKept, (t_bytes, t_length, t_sort, t_start, t_end, t_value), (h_numbers, h_bits, h_size), res.2)) (gA g)) 0 0 (gA g) := by
  refine Met.ofW (cc := cX6_cell) (maxL := 3) (ret := (some .int)) (by decide) rfl ?_
  intro p e s m args below meth c s₁ B hml hv
  obtain ⟨rfl, hI⟩ := hv
  have hx := B.exec
  have hb := B.bytes
  have hr := B.returns
  have hts := atoms_spec (ws := wsX6_cell) B.pre
  have hown : s.vm.findClass RX6 = some m.cls := findClass_of_methodNamed B.named
  have hlocks := B.notSynchronized
  have hP := hI.1
  have hB := hI.2
  have hK := hB.1
  have hNW := hB.2.1
  have hS : va_S (gA g) s.heap s.heap [] := va_S.rf
  have hw0 := hts (.fieldLink RX6 10 "SownPaths" "park" "LSownPaths$Park;") (by decide +kernel)
  have iwX6 : ∀ w ∈ wsX60, w ∈ wsX6_cell := fun w h => List.mem_cons_of_mem _ (List.mem_append_left _ (List.mem_append_left _ (List.mem_append_right _ h)))
  have hl := lv_entry ([.ref (ga g 0), .int a1, .int a2]) (n := 3) (Nat.le_of_ble_eq_true rfl)
  rw [lg_entry_eq]
  generalize (lg_sl ([.ref (ga g 0), .int a1, .int a2]) ++ List.replicate (3 - (lg_sl ([.ref (ga g 0), .int a1, .int a2])).length) Slot.unset).toArray = ls at hl ⊢
  have hl : lv_has ls 3 [(0, .ref (ga g 0)), (1, .int a1), (2, .int a2)] := hl
  unfold fX6_cell at hf
  refine lv_iload_n hx hb dX6_cell_0 rfl (lv_at hl 1 rfl) ?_
  obtain ⟨q1, hq1, hf⟩ := bd_some hf
  refine kr_S (st1 := [.int q1]) (va_runS (As := [.int a1]) (rest := []) ⟨hx, hb, hml, hown, hts⟩ (ct_X6_isCell l n a1 q1 hq1) (va_cwS 1 hts gX6_cell_X6_isCell rfl rfl rfl hn_X6_isCell ⟨Nat.le_of_ble_eq_true rfl, Nat.le_of_ble_eq_true rfl⟩) ⟨bl_N, pr_N rfl hNW⟩ rfl rfl hl.1 rfl (lv_room (Nat.le_of_ble_eq_true rfl)) dX6_cell_1 ⟨Nat.le_refl _, Nat.le_refl _⟩) rfl (fun hn2 => ?_)
  refine lv_if_ne (tgt := 13) hx hb dX6_cell_4 (by decide) (fun hc3 => ?_) (fun hc3 => ?_)
  · have hf := (if_neg hc3).symm.trans hf
    refine lv_iload_n hx hb dX6_cell_13 rfl (lv_at hl 2 rfl) ?_
    by_cases hc4 : a2 = (0 : Int32)
    · have hf := (if_pos hc4).symm.trans hf
      refine lv_tableIn (tgt := 44) hx hb dX6_cell_14 (by rw [hc4]; decide) (by rw [hc4]; decide) (by rw [hc4]; rfl) (by decide) ?_
      refine lv_aload_n hx hb dX6_cell_44 rfl (lv_at hl 0 rfl) ?_
      refine va_get (D := g.1) (ci := 4) (v := .ref (ga g (1 + 0))) (C := RX6) (T := TX6) (N := 7) hx hb hts iwX6 hown hK hP 0 q_sp rfl 0 (by decide) hw0 (fun _ h9 => h9) rfl dX6_cell_45 ?_
      refine lv_iload_n hx hb dX6_cell_48 rfl (lv_at hl 1 rfl) ?_
      obtain ⟨q5, hq5, hf⟩ := bd_some hf
      refine kr_S (st1 := [.int q5]) (va_runV (As := [.int a1]) (rest := []) ⟨hx, hb, hml, hown, hts⟩ (ct_X2_groundOf l n g (pk3 (p0_paths, p0_water, p0_wall, p0_kind, p0_place, p0_facing, p0_age, p0_seeds, p0_season, p0_z, p0_spots) (p1_paths, p1_water, p1_wall, p1_kind, p1_place, p1_facing, p1_age, p1_seeds, p1_season, p1_z, p1_spots) (p2_paths, p2_water, p2_wall, p2_kind, p2_place, p2_facing, p2_age, p2_seeds, p2_season, p2_z, p2_spots), w_isKept, (t_bytes, t_length, t_sort, t_start, t_end, t_value), (h_numbers, h_bits, h_size), w_told) 0 (by decide) p0_paths p0_water p0_wall p0_kind p0_place p0_facing p0_age p0_seeds p0_season p0_z p0_spots rfl a1 q5 hq5) (cwV 1 hts gX6_cell_X2_groundOf rfl rfl rfl hd_X2_groundOf ⟨Nat.le_of_ble_eq_true rfl, Nat.le_of_ble_eq_true rfl⟩) ⟨bl_C, va_recv hK hP (ci := 0) (q0 := (1 + 0)) rfl (e_pk (by decide) rfl (Q := (p0_paths, p0_water, p0_wall, p0_kind, p0_place, p0_facing, p0_age, p0_seeds, p0_season, p0_z, p0_spots))), pr_C rfl hB hP hS⟩ rfl rfl hl.1 rfl (lv_room (Nat.le_of_ble_eq_true rfl)) dX6_cell_49 ⟨Nat.le_refl _, Nat.le_refl _⟩) rfl (fun hn6 => ?_)
      have hres : (q5, w_told) = res := (Option.some.inj hf)
      have hP := w_eq (congrArg (fun z => cw g (pk3 (p0_paths, p0_water, p0_wall, p0_kind, p0_place, p0_facing, p0_age, p0_seeds, p0_season, p0_z, p0_spots) (p1_paths, p1_water, p1_wall, p1_kind, p1_place, p1_facing, p1_age, p1_seeds, p1_season, p1_z, p1_spots) (p2_paths, p2_water, p2_wall, p2_kind, p2_place, p2_facing, p2_age, p2_seeds, p2_season, p2_z, p2_spots), w_isKept, (t_bytes, t_length, t_sort, t_start, t_end, t_value), (h_numbers, h_bits, h_size), z.2)) hres) hP
      exact W.iret (v := q5) hx hb hr (fun t ht hW => ⟨congrArg (fun z => Outcome.returned (some (Value.int z.1))) hres, trivial, by rw [ht]; exact hP, hS.F ht⟩) hS.2.2 dX6_cell_52
    · have hf := (if_neg hc4).symm.trans hf
      by_cases hc7 : a2 = (1 : Int32)
      · have hf := (if_pos hc7).symm.trans hf
        refine lv_tableIn (tgt := 53) hx hb dX6_cell_14 (by rw [hc7]; decide) (by rw [hc7]; decide) (by rw [hc7]; rfl) (by decide) ?_
        refine lv_aload_n hx hb dX6_cell_53 rfl (lv_at hl 0 rfl) ?_
        refine va_get (D := g.1) (ci := 4) (v := .ref (ga g (1 + 0))) (C := RX6) (T := TX6) (N := 7) hx hb hts iwX6 hown hK hP 0 q_sp rfl 0 (by decide) hw0 (fun _ h9 => h9) rfl dX6_cell_54 ?_
        refine lv_iload_n hx hb dX6_cell_57 rfl (lv_at hl 1 rfl) ?_
        obtain ⟨q8, hq8, hf⟩ := bd_some hf
        refine kr_S (st1 := [.int q8]) (va_runV (As := [.int a1]) (rest := []) ⟨hx, hb, hml, hown, hts⟩ (ct_X2_pathOf l n g (pk3 (p0_paths, p0_water, p0_wall, p0_kind, p0_place, p0_facing, p0_age, p0_seeds, p0_season, p0_z, p0_spots) (p1_paths, p1_water, p1_wall, p1_kind, p1_place, p1_facing, p1_age, p1_seeds, p1_season, p1_z, p1_spots) (p2_paths, p2_water, p2_wall, p2_kind, p2_place, p2_facing, p2_age, p2_seeds, p2_season, p2_z, p2_spots), w_isKept, (t_bytes, t_length, t_sort, t_start, t_end, t_value), (h_numbers, h_bits, h_size), w_told) 0 (by decide) p0_paths p0_water p0_wall p0_kind p0_place p0_facing p0_age p0_seeds p0_season p0_z p0_spots rfl a1 q8 hq8) (cwV 1 hts gX6_cell_X2_pathOf rfl rfl rfl hd_X2_pathOf ⟨Nat.le_of_ble_eq_true rfl, Nat.le_of_ble_eq_true rfl⟩) ⟨bl_C, va_recv hK hP (ci := 0) (q0 := (1 + 0)) rfl (e_pk (by decide) rfl (Q := (p0_paths, p0_water, p0_wall, p0_kind, p0_place, p0_facing, p0_age, p0_seeds, p0_season, p0_z, p0_spots))), pr_C rfl hB hP hS⟩ rfl rfl hl.1 rfl (lv_room (Nat.le_of_ble_eq_true rfl)) dX6_cell_58 ⟨Nat.le_refl _, Nat.le_refl _⟩) rfl (fun hn9 => ?_)
        have hres : (q8, w_told) = res := (Option.some.inj hf)
        have hP := w_eq (congrArg (fun z => cw g (pk3 (p0_paths, p0_water, p0_wall, p0_kind, p0_place, p0_facing, p0_age, p0_seeds, p0_season, p0_z, p0_spots) (p1_paths, p1_water, p1_wall, p1_kind, p1_place, p1_facing, p1_age, p1_seeds, p1_season, p1_z, p1_spots) (p2_paths, p2_water, p2_wall, p2_kind, p2_place, p2_facing, p2_age, p2_seeds, p2_season, p2_z, p2_spots), w_isKept, (t_bytes, t_length, t_sort, t_start, t_end, t_value), (h_numbers, h_bits, h_size), z.2)) hres) hP
        exact W.iret (v := q8) hx hb hr (fun t ht hW => ⟨congrArg (fun z => Outcome.returned (some (Value.int z.1))) hres, trivial, by rw [ht]; exact hP, hS.F ht⟩) hS.2.2 dX6_cell_61
      · have hf := (if_neg hc7).symm.trans hf
        by_cases hc10 : a2 = (2 : Int32)
        · have hf := (if_pos hc10).symm.trans hf
          refine lv_tableIn (tgt := 62) hx hb dX6_cell_14 (by rw [hc10]; decide) (by rw [hc10]; decide) (by rw [hc10]; rfl) (by decide) ?_
          refine lv_iload_n hx hb dX6_cell_62 rfl (lv_at hl 1 rfl) ?_
          obtain ⟨q11, hq11, hf⟩ := bd_some hf
          refine kr_S (st1 := [.long q11]) (va_runS (As := [.int a1]) (rest := []) ⟨hx, hb, hml, hown, hts⟩ (ct_X6_bit l n a1 q11 hq11) (va_cwS 1 hts gX6_cell_X6_bit rfl rfl rfl hn_X6_bit ⟨Nat.le_of_ble_eq_true rfl, Nat.le_of_ble_eq_true rfl⟩) ⟨bl_N, pr_N rfl hNW⟩ rfl rfl hl.1 rfl (lv_room (Nat.le_of_ble_eq_true rfl)) dX6_cell_63 ⟨Nat.le_refl _, Nat.le_refl _⟩) rfl (fun hn12 => ?_)
          obtain ⟨q13, hq13, hf⟩ := bd_some hf
          refine kr_S (st1 := [.long q13]) (va_runS (As := [.long q11]) (rest := []) ⟨hx, hb, hml, hown, hts⟩ (ct_X0_neighbours l n q11 q13 hq13) (va_cwS 1 hts gX6_cell_X0_neighbours rfl rfl rfl hn_X0_neighbours ⟨Nat.le_of_ble_eq_true rfl, Nat.le_of_ble_eq_true rfl⟩) ⟨bl_N, pr_N rfl hNW⟩ rfl rfl hl.1 rfl (lv_room (Nat.le_of_ble_eq_true rfl)) dX6_cell_66 ⟨Nat.le_refl _, Nat.le_refl _⟩) rfl (fun hn14 => ?_)
          refine lv_aload_n hx hb dX6_cell_69 rfl (lv_at hl 0 rfl) ?_
          refine va_get (D := g.1) (ci := 4) (v := .ref (ga g (1 + 0))) (C := RX6) (T := TX6) (N := 7) hx hb hts iwX6 hown hK hP 0 q_sp rfl 0 (by decide) hw0 (fun _ h9 => h9) rfl dX6_cell_70 ?_
          obtain ⟨q15, hq15, hf⟩ := bd_some hf
          refine kr_S (st1 := [.long q15, .long q13]) (va_runV (As := []) (rest := [.long q13]) ⟨hx, hb, hml, hown, hts⟩ (ct_X2_pathSet l n g (pk3 (p0_paths, p0_water, p0_wall, p0_kind, p0_place, p0_facing, p0_age, p0_seeds, p0_season, p0_z, p0_spots) (p1_paths, p1_water, p1_wall, p1_kind, p1_place, p1_facing, p1_age, p1_seeds, p1_season, p1_z, p1_spots) (p2_paths, p2_water, p2_wall, p2_kind, p2_place, p2_facing, p2_age, p2_seeds, p2_season, p2_z, p2_spots), w_isKept, (t_bytes, t_length, t_sort, t_start, t_end, t_value), (h_numbers, h_bits, h_size), w_told) 0 (by decide) p0_paths p0_water p0_wall p0_kind p0_place p0_facing p0_age p0_seeds p0_season p0_z p0_spots rfl q15 hq15) (cwV 0 hts gX6_cell_X2_pathSet rfl rfl rfl hd_X2_pathSet ⟨Nat.le_of_ble_eq_true rfl, Nat.le_of_ble_eq_true rfl⟩) ⟨bl_C, va_recv hK hP (ci := 0) (q0 := (1 + 0)) rfl (e_pk (by decide) rfl (Q := (p0_paths, p0_water, p0_wall, p0_kind, p0_place, p0_facing, p0_age, p0_seeds, p0_season, p0_z, p0_spots))), pr_C rfl hB hP hS⟩ rfl rfl hl.1 rfl (lv_room (Nat.le_of_ble_eq_true rfl)) dX6_cell_73 ⟨Nat.le_refl _, Nat.le_refl _⟩) rfl (fun hn16 => ?_)
          refine lv_land hx hb dX6_cell_76 ?_
          obtain ⟨q17, hq17, hf⟩ := bd_some hf
          refine kr_S (st1 := [.int q17]) (va_runS (As := [.long (q13 &&& q15)]) (rest := []) ⟨hx, hb, hml, hown, hts⟩ (ct_J13_bitCount_95d88 l n (q13 &&& q15) q17 hq17) (va_cwS 1 hts gX6_cell_J13_bitCount_95d88 rfl rfl rfl hn_J13_bitCount_95d88 ⟨Nat.le_of_ble_eq_true rfl, Nat.le_of_ble_eq_true rfl⟩) ⟨bl_N, pr_N rfl hNW⟩ rfl rfl hl.1 rfl (lv_room (Nat.le_of_ble_eq_true rfl)) dX6_cell_77 ⟨Nat.le_refl _, Nat.le_refl _⟩) rfl (fun hn18 => ?_)
          have hres : (q17, w_told) = res := (Option.some.inj hf)
          have hP := w_eq (congrArg (fun z => cw g (pk3 (p0_paths, p0_water, p0_wall, p0_kind, p0_place, p0_facing, p0_age, p0_seeds, p0_season, p0_z, p0_spots) (p1_paths, p1_water, p1_wall, p1_kind, p1_place, p1_facing, p1_age, p1_seeds, p1_season, p1_z, p1_spots) (p2_paths, p2_water, p2_wall, p2_kind, p2_place, p2_facing, p2_age, p2_seeds, p2_season, p2_z, p2_spots), w_isKept, (t_bytes, t_length, t_sort, t_start, t_end, t_value), (h_numbers, h_bits, h_size), z.2)) hres) hP
          exact W.iret (v := q17) hx hb hr (fun t ht hW => ⟨congrArg (fun z => Outcome.returned (some (Value.int z.1))) hres, trivial, by rw [ht]; exact hP, hS.F ht⟩) hS.2.2 dX6_cell_80
        · have hf := (if_neg hc10).symm.trans hf
          by_cases hc19 : a2 = (3 : Int32)
          · have hf := (if_pos hc19).symm.trans hf
            refine lv_tableIn (tgt := 81) hx hb dX6_cell_14 (by rw [hc19]; decide) (by rw [hc19]; decide) (by rw [hc19]; rfl) (by decide) ?_
            refine lv_aload_n hx hb dX6_cell_81 rfl (lv_at hl 0 rfl) ?_
            refine va_get (D := g.1) (ci := 4) (v := .ref (ga g (1 + 0))) (C := RX6) (T := TX6) (N := 7) hx hb hts iwX6 hown hK hP 0 q_sp rfl 0 (by decide) hw0 (fun _ h9 => h9) rfl dX6_cell_82 ?_
            refine lv_iload_n hx hb dX6_cell_85 rfl (lv_at hl 1 rfl) ?_
            obtain ⟨q20, hq20, hf⟩ := bd_some hf
            refine kr_S (st1 := [.int q20]) (va_runV (As := [.int a1]) (rest := []) ⟨hx, hb, hml, hown, hts⟩ (ct_X2_headsOn l n g (pk3 (p0_paths, p0_water, p0_wall, p0_kind, p0_place, p0_facing, p0_age, p0_seeds, p0_season, p0_z, p0_spots) (p1_paths, p1_water, p1_wall, p1_kind, p1_place, p1_facing, p1_age, p1_seeds, p1_season, p1_z, p1_spots) (p2_paths, p2_water, p2_wall, p2_kind, p2_place, p2_facing, p2_age, p2_seeds, p2_season, p2_z, p2_spots), w_isKept, (t_bytes, t_length, t_sort, t_start, t_end, t_value), (h_numbers, h_bits, h_size), w_told) 0 (by decide) p0_paths p0_water p0_wall p0_kind p0_place p0_facing p0_age p0_seeds p0_season p0_z p0_spots rfl a1 q20 hq20) (cwV 1 hts gX6_cell_X2_headsOn rfl rfl rfl hd_X2_headsOn ⟨Nat.le_of_ble_eq_true rfl, Nat.le_of_ble_eq_true rfl⟩) ⟨bl_C, va_recv hK hP (ci := 0) (q0 := (1 + 0)) rfl (e_pk (by decide) rfl (Q := (p0_paths, p0_water, p0_wall, p0_kind, p0_place, p0_facing, p0_age, p0_seeds, p0_season, p0_z, p0_spots))), pr_C rfl hB hP hS⟩ rfl rfl hl.1 rfl (lv_room (Nat.le_of_ble_eq_true rfl)) dX6_cell_86 ⟨Nat.le_refl _, Nat.le_refl _⟩) rfl (fun hn21 => ?_)
            have hres : (q20, w_told) = res := (Option.some.inj hf)
            have hP := w_eq (congrArg (fun z => cw g (pk3 (p0_paths, p0_water, p0_wall, p0_kind, p0_place, p0_facing, p0_age, p0_seeds, p0_season, p0_z, p0_spots) (p1_paths, p1_water, p1_wall, p1_kind, p1_place, p1_facing, p1_age, p1_seeds, p1_season, p1_z, p1_spots) (p2_paths, p2_water, p2_wall, p2_kind, p2_place, p2_facing, p2_age, p2_seeds, p2_season, p2_z, p2_spots), w_isKept, (t_bytes, t_length, t_sort, t_start, t_end, t_value), (h_numbers, h_bits, h_size), z.2)) hres) hP
            exact W.iret (v := q20) hx hb hr (fun t ht hW => ⟨congrArg (fun z => Outcome.returned (some (Value.int z.1))) hres, trivial, by rw [ht]; exact hP, hS.F ht⟩) hS.2.2 dX6_cell_89
          · have hf := (if_neg hc19).symm.trans hf
            refine lv_tableOut (tgt := 90) hx hb dX6_cell_14 (by have := lv_neT (a := 0) hc4 rfl; have := lv_neT (a := 1) hc7 rfl; have := lv_neT (a := 2) hc10 rfl; have := lv_neT (a := 3) hc19 rfl; omega) (by decide) ?_
            refine lv_aload_n hx hb dX6_cell_90 rfl (lv_at hl 0 rfl) ?_
            refine lv_iconst (v := (0 : Int32)) hx hb dX6_cell_91 (by decide) ?_
            obtain ⟨q22, hq22, hf⟩ := bd_some hf
            refine kr_W (st1 := [.int q22.1]) (va_runV (As := [.int (0 : Int32)]) (rest := []) ⟨hx, hb, hml, hown, hts⟩ (ct_X6_finding l n g p0_paths p0_water p0_wall p0_kind p0_place p0_facing p0_age p0_seeds p0_season p0_z p0_spots p1_paths p1_water p1_wall p1_kind p1_place p1_facing p1_age p1_seeds p1_season p1_z p1_spots p2_paths p2_water p2_wall p2_kind p2_place p2_facing p2_age p2_seeds p2_season p2_z p2_spots t_bytes t_length t_sort t_start t_end t_value h_numbers h_bits h_size w_isKept w_told (0 : Int32) q22 hq22) (cwV 1 hts gX6_cell_X6_finding rfl rfl rfl hd_X6_finding ⟨Nat.le_of_ble_eq_true rfl, Nat.le_of_ble_eq_true rfl⟩) ⟨bl_C, va_recv hK hP (ci := 4) (q0 := 0) rfl q_sp, pr_C rfl hB hP hS⟩ rfl rfl hl.1 rfl (lv_room (Nat.le_of_ble_eq_true rfl)) dX6_cell_92 ⟨Nat.le_refl _, Nat.le_refl _⟩) hS rfl (fun hn23 H locs hP hS => ?_)
            have hP : va_P g.1 vwCl (cw g (pk3 (p0_paths, p0_water, p0_wall, p0_kind, p0_place, p0_facing, p0_age, p0_seeds, p0_season, p0_z, p0_spots) (p1_paths, p1_water, p1_wall, p1_kind, p1_place, p1_facing, p1_age, p1_seeds, p1_season, p1_z, p1_spots) (p2_paths, p2_water, p2_wall, p2_kind, p2_place, p2_facing, p2_age, p2_seeds, p2_season, p2_z, p2_spots), w_isKept, (t_bytes, t_length, t_sort, t_start, t_end, t_value), (h_numbers, h_bits, h_size), q22.2)) H := hP
            have hres : (q22.1, q22.2) = res := (Option.some.inj hf)
            have hP := w_eq (congrArg (fun z => cw g (pk3 (p0_paths, p0_water, p0_wall, p0_kind, p0_place, p0_facing, p0_age, p0_seeds, p0_season, p0_z, p0_spots) (p1_paths, p1_water, p1_wall, p1_kind, p1_place, p1_facing, p1_age, p1_seeds, p1_season, p1_z, p1_spots) (p2_paths, p2_water, p2_wall, p2_kind, p2_place, p2_facing, p2_age, p2_seeds, p2_season, p2_z, p2_spots), w_isKept, (t_bytes, t_length, t_sort, t_start, t_end, t_value), (h_numbers, h_bits, h_size), z.2)) hres) hP
            exact W.iret (v := q22.1) hx hb hr (fun t ht hW => ⟨congrArg (fun z => Outcome.returned (some (Value.int z.1))) hres, trivial, by rw [ht]; exact hP, hS.F ht⟩) hS.2.2 dX6_cell_95
  · have hf := (if_pos hc3).symm.trans hf
    refine lv_aload_n hx hb dX6_cell_7 rfl (lv_at hl 0 rfl) ?_
    refine lv_iconst (v := (0 : Int32)) hx hb dX6_cell_8 (by decide) ?_
    obtain ⟨q24, hq24, hf⟩ := bd_some hf
    refine kr_W (st1 := [.int q24.1]) (va_runV (As := [.int (0 : Int32)]) (rest := []) ⟨hx, hb, hml, hown, hts⟩ (ct_X6_finding l n g p0_paths p0_water p0_wall p0_kind p0_place p0_facing p0_age p0_seeds p0_season p0_z p0_spots p1_paths p1_water p1_wall p1_kind p1_place p1_facing p1_age p1_seeds p1_season p1_z p1_spots p2_paths p2_water p2_wall p2_kind p2_place p2_facing p2_age p2_seeds p2_season p2_z p2_spots t_bytes t_length t_sort t_start t_end t_value h_numbers h_bits h_size w_isKept w_told (0 : Int32) q24 hq24) (cwV 1 hts gX6_cell_X6_finding rfl rfl rfl hd_X6_finding ⟨Nat.le_of_ble_eq_true rfl, Nat.le_of_ble_eq_true rfl⟩) ⟨bl_C, va_recv hK hP (ci := 4) (q0 := 0) rfl q_sp, pr_C rfl hB hP hS⟩ rfl rfl hl.1 rfl (lv_room (Nat.le_of_ble_eq_true rfl)) dX6_cell_9 ⟨Nat.le_refl _, Nat.le_refl _⟩) hS rfl (fun hn25 H locs hP hS => ?_)
    have hP : va_P g.1 vwCl (cw g (pk3 (p0_paths, p0_water, p0_wall, p0_kind, p0_place, p0_facing, p0_age, p0_seeds, p0_season, p0_z, p0_spots) (p1_paths, p1_water, p1_wall, p1_kind, p1_place, p1_facing, p1_age, p1_seeds, p1_season, p1_z, p1_spots) (p2_paths, p2_water, p2_wall, p2_kind, p2_place, p2_facing, p2_age, p2_seeds, p2_season, p2_z, p2_spots), w_isKept, (t_bytes, t_length, t_sort, t_start, t_end, t_value), (h_numbers, h_bits, h_size), q24.2)) H := hP
    have hres : (q24.1, q24.2) = res := (Option.some.inj hf)
    have hP := w_eq (congrArg (fun z => cw g (pk3 (p0_paths, p0_water, p0_wall, p0_kind, p0_place, p0_facing, p0_age, p0_seeds, p0_season, p0_z, p0_spots) (p1_paths, p1_water, p1_wall, p1_kind, p1_place, p1_facing, p1_age, p1_seeds, p1_season, p1_z, p1_spots) (p2_paths, p2_water, p2_wall, p2_kind, p2_place, p2_facing, p2_age, p2_seeds, p2_season, p2_z, p2_spots), w_isKept, (t_bytes, t_length, t_sort, t_start, t_end, t_value), (h_numbers, h_bits, h_size), z.2)) hres) hP
    exact W.iret (v := q24.1) hx hb hr (fun t ht hW => ⟨congrArg (fun z => Outcome.returned (some (Value.int z.1))) hres, trivial, by rw [ht]; exact hP, hS.F ht⟩) hS.2.2 dX6_cell_12
set_option maxHeartbeats 4000000 in
set_option maxRecDepth 100000 in
theorem ct_X2_grassSet (l : Launch) (n : Nat) (g : GC) (σ : CS) (k : Nat) (hk : k < 3) (f_paths : Nat → Int32) (f_water : Int64) (f_wall : Int64) (f_kind : Nat → Int32) (f_place : Nat → Int32) (f_facing : Nat → Int32) (f_age : Nat → Int32) (f_seeds : Int32) (f_season : Int32) (f_z : Int32) (f_spots : Nat → Int32) (he : σ.1 k = (f_paths, f_water, f_wall, f_kind, f_place, f_facing, f_age, f_seeds, f_season, f_z, f_spots)) (res : Int64) (hf : fX2_grassSet n f_water f_wall = some res) : Met l yX2_grassSet wsX2_grassSet ({ frames := 0, cells := 0, slots := 0, locals := 0 }) (va_Pc [.ref (ga g (1 + k))] (cI g σ)) (qS (some (.long res)) True) 0 0 (fun _ => False) := by
  refine Met.ofW (cc := cX2_grassSet) (maxL := 1) (ret := (some .long)) (by decide) rfl ?_
  intro p e s m args below meth c s₁ B hml hv
  obtain ⟨rfl, hI⟩ := hv
  have hx := B.exec
  have hb := B.bytes
  have hr := B.returns
  have hts := atoms_spec (ws := wsX2_grassSet) B.pre
  have hown : s.vm.findClass RX2 = some m.cls := findClass_of_methodNamed B.named
  have hlocks := B.notSynchronized
  have hP := hI.1
  have hB := hI.2
  have hK := hB.1
  have hNW := hB.2.1
  have hS : va_S (gA g) s.heap s.heap [] := va_S.rf
  have hw0 := hts (.constantLong RX2 89 (68719476735)) (by decide +kernel)
  have hw1 := hts (.fieldLink RX2 33 "SownPaths$Park" "water" "J") (by decide +kernel)
  have hw2 := hts (.fieldLink RX2 37 "SownPaths$Park" "wall" "J") (by decide +kernel)
  have hw3 := hts (.constantLong RX2 81 (-1)) (by decide +kernel)
  have iwX2 : ∀ w ∈ wsX20, w ∈ wsX2_grassSet := fun w h => List.mem_cons_of_mem _ (List.mem_append_right _ h)
  have hl := lv_entry ([.ref (ga g (1 + k))]) (n := 1) (Nat.le_of_ble_eq_true rfl)
  rw [lg_entry_eq]
  generalize (lg_sl ([.ref (ga g (1 + k))]) ++ List.replicate (1 - (lg_sl ([.ref (ga g (1 + k))])).length) Slot.unset).toArray = ls at hl ⊢
  have hl : lv_has ls 1 [(0, .ref (ga g (1 + k)))] := hl
  unfold fX2_grassSet at hf
  refine lv_ldc2 (v := (68719476735 : Int64)) hx hb hown hw0 dX2_grassSet_0 ?_
  refine lv_aload_n hx hb dX2_grassSet_3 rfl (lv_at hl 0 rfl) ?_
  refine va_get (D := g.1) (ci := 0) (v := .long f_water) (C := RX2) (T := TX2) (N := 8) hx hb hts iwX2 hown hK hP (1 + k) (e_pk hk he (Q := (f_paths, f_water, f_wall, f_kind, f_place, f_facing, f_age, f_seeds, f_season, f_z, f_spots))) rfl 1 (by decide) hw1 (fun _ h9 => h9) rfl dX2_grassSet_4 ?_
  refine lv_aload_n hx hb dX2_grassSet_7 rfl (lv_at hl 0 rfl) ?_
  refine va_get (D := g.1) (ci := 0) (v := .long f_wall) (C := RX2) (T := TX2) (N := 8) hx hb hts iwX2 hown hK hP (1 + k) (e_pk hk he (Q := (f_paths, f_water, f_wall, f_kind, f_place, f_facing, f_age, f_seeds, f_season, f_z, f_spots))) rfl 2 (by decide) hw2 (fun _ h9 => h9) rfl dX2_grassSet_8 ?_
  refine lv_lor hx hb dX2_grassSet_11 ?_
  refine lv_ldc2 (v := (-1 : Int64)) hx hb hown hw3 dX2_grassSet_12 ?_
  refine lv_lxor hx hb dX2_grassSet_15 ?_
  refine lv_land hx hb dX2_grassSet_16 ?_
  have hres : ((68719476735 : Int64) &&& ((f_water ||| f_wall) ^^^ (-1 : Int64))) = res := (Option.some.inj hf)
  exact W.lret (v := ((68719476735 : Int64) &&& ((f_water ||| f_wall) ^^^ (-1 : Int64)))) hx hb hr (fun t ht hW => ⟨congrArg (fun z => Outcome.returned (some (Value.long z))) hres, trivial, ht⟩) t_nil dX2_grassSet_17
set_option maxHeartbeats 4000000 in
set_option maxRecDepth 100000 in
theorem ct_X2_isGrass (l : Launch) (n : Nat) (g : GC) (σ : CS) (k : Nat) (hk : k < 3) (f_paths : Nat → Int32) (f_water : Int64) (f_wall : Int64) (f_kind : Nat → Int32) (f_place : Nat → Int32) (f_facing : Nat → Int32) (f_age : Nat → Int32) (f_seeds : Int32) (f_season : Int32) (f_z : Int32) (f_spots : Nat → Int32) (he : σ.1 k = (f_paths, f_water, f_wall, f_kind, f_place, f_facing, f_age, f_seeds, f_season, f_z, f_spots)) (a1 : Int32) (res : Int32) (hf : fX2_isGrass n a1 f_water f_wall = some res) : Met l yX2_isGrass wsX2_isGrass ({ frames := 1, cells := 0, slots := 0, locals := 20 }) (va_Pc [.ref (ga g (1 + k)), .int a1] (cI g σ)) (qS (some (.int res)) (narrow .boolean (.int res) = .int res)) 0 0 (fun _ => False) := by
  refine Met.ofW (cc := cX2_isGrass) (maxL := 2) (ret := (some .boolean)) (by decide) rfl ?_
  intro p e s m args below meth c s₁ B hml hv
  obtain ⟨rfl, hI⟩ := hv
  have hx := B.exec
  have hb := B.bytes
  have hr := B.returns
  have hts := atoms_spec (ws := wsX2_isGrass) B.pre
  have hown : s.vm.findClass RX2 = some m.cls := findClass_of_methodNamed B.named
  have hlocks := B.notSynchronized
  have hP := hI.1
  have hB := hI.2
  have hK := hB.1
  have hNW := hB.2.1
  have hS : va_S (gA g) s.heap s.heap [] := va_S.rf
  have hw0 := hts (.initialized RX6) (by decide +kernel)
  have hw1 := hts (.static yX6_bit) (by decide +kernel)
  have hl := lv_entry ([.ref (ga g (1 + k)), .int a1]) (n := 2) (Nat.le_of_ble_eq_true rfl)
  rw [lg_entry_eq]
  generalize (lg_sl ([.ref (ga g (1 + k)), .int a1]) ++ List.replicate (2 - (lg_sl ([.ref (ga g (1 + k)), .int a1])).length) Slot.unset).toArray = ls at hl ⊢
  have hl : lv_has ls 2 [(0, .ref (ga g (1 + k))), (1, .int a1)] := hl
  unfold fX2_isGrass at hf
  refine lv_aload_n hx hb dX2_isGrass_0 rfl (lv_at hl 0 rfl) ?_
  obtain ⟨q1, hq1, hf⟩ := bd_some hf
  refine kr_S (st1 := [.long q1]) (va_runV (As := []) (rest := []) ⟨hx, hb, hml, hown, hts⟩ (ct_X2_grassSet l n g σ k hk f_paths f_water f_wall f_kind f_place f_facing f_age f_seeds f_season f_z f_spots he q1 hq1) (cwV 0 hts gX2_isGrass_X2_grassSet rfl rfl rfl hd_X2_grassSet ⟨Nat.le_of_ble_eq_true rfl, Nat.le_of_ble_eq_true rfl⟩) ⟨bl_C, va_recv hK hP (ci := 0) (q0 := (1 + k)) rfl (e_pk hk he (Q := (f_paths, f_water, f_wall, f_kind, f_place, f_facing, f_age, f_seeds, f_season, f_z, f_spots))), pr_C rfl hB hP hS⟩ rfl rfl hl.1 rfl (lv_room (Nat.le_of_ble_eq_true rfl)) dX2_isGrass_1 ⟨Nat.le_refl _, Nat.le_refl _⟩) rfl (fun hn2 => ?_)
  refine lv_iload_n hx hb dX2_isGrass_4 rfl (lv_at hl 1 rfl) ?_
  obtain ⟨q3, hq3, hf⟩ := bd_some hf
  refine kr_S (st1 := [.long q3, .long q1]) (va_runSN (As := [.int a1]) (rest := [.long q1]) ⟨hx, hb, hml, hown, hts⟩ (ct_X6_bit l n a1 q3 hq3) (⟨va_cnB 1 hts gX2_isGrass_X6_bit_n77 rfl rfl rfl (ml_X2_77 hNW) hw0 hn_X6_bit ⟨Nat.le_of_ble_eq_true rfl, Nat.le_of_ble_eq_true rfl⟩, hw1, trivial⟩) ⟨bl_N, pr_N rfl hNW⟩ rfl rfl hl.1 rfl (lv_room (Nat.le_of_ble_eq_true rfl)) dX2_isGrass_5 ⟨Nat.le_refl _, Nat.le_refl _⟩) rfl (fun hn4 => ?_)
  refine lv_land hx hb dX2_isGrass_8 ?_
  refine lv_lconst (v := (0 : Int64)) hx hb dX2_isGrass_9 (by decide) ?_
  refine W.lcmp hx hb dX2_isGrass_10 ?_
  refine lv_if_eq (tgt := 18) hx hb dX2_isGrass_11 (by decide) (fun hc5 => ?_) (fun hc5 => ?_)
  · have hc5 := (lg_cmp_eq (q1 &&& q3) (0 : Int64)).mp hc5
    have hf := (if_pos hc5).symm.trans hf
    refine lv_iconst (v := (0 : Int32)) hx hb dX2_isGrass_18 (by decide) ?_
    have hres : (0 : Int32) = res := (Option.some.inj hf)
    have hnr : narrow .boolean (.int (0 : Int32)) = .int (0 : Int32) := rfl
    exact W.zret (v := (0 : Int32)) hx hb hr hnr (fun t ht hW => ⟨congrArg (fun z => Outcome.returned (some (Value.int z))) hres, Eq.mp (congrArg (fun z => narrow .boolean (.int z) = .int z) hres) hnr, ht⟩) t_nil dX2_isGrass_19
  · have hc5 : ¬ ((q1 &&& q3) = (0 : Int64)) := fun h => hc5 ((lg_cmp_eq (q1 &&& q3) (0 : Int64)).mpr h)
    have hf := (if_neg hc5).symm.trans hf
    refine lv_iconst (v := (1 : Int32)) hx hb dX2_isGrass_14 (by decide) ?_
    refine lv_goto (tgt := 19) hx hb dX2_isGrass_15 (by decide) ?_
    have hres : (1 : Int32) = res := (Option.some.inj hf)
    have hnr : narrow .boolean (.int (1 : Int32)) = .int (1 : Int32) := rfl
    exact W.zret (v := (1 : Int32)) hx hb hr hnr (fun t ht hW => ⟨congrArg (fun z => Outcome.returned (some (Value.int z))) hres, Eq.mp (congrArg (fun z => narrow .boolean (.int z) = .int z) hres) hnr, ht⟩) t_nil dX2_isGrass_19
set_option maxHeartbeats 4000000 in
set_option maxRecDepth 100000 in
theorem ct_X2_becomePath (l : Launch) (n : Nat) (g : GC) (S : PK → CS) (k : Nat) (hk : k < 3) (hL : zP k S) (f_paths : Nat → Int32) (f_water : Int64) (f_wall : Int64) (f_kind : Nat → Int32) (f_place : Nat → Int32) (f_facing : Nat → Int32) (f_age : Nat → Int32) (f_seeds : Int32) (f_season : Int32) (f_z : Int32) (f_spots : Nat → Int32) (a1 : Int32) (a2 : Int32) (res : (Nat → Int32)) (hf : fX2_becomePath n a1 a2 f_paths f_water f_wall = some res) : Met l yX2_becomePath wsX2_becomePath ({ frames := 2, cells := 0, slots := 0, locals := 41 }) (va_Pc [.ref (ga g (1 + k)), .int a1, .int a2] (cI g (S (f_paths, f_water, f_wall, f_kind, f_place, f_facing, f_age, f_seeds, f_season, f_z, f_spots)))) (qW none True g.1 (cw g (S (res, f_water, f_wall, f_kind, f_place, f_facing, f_age, f_seeds, f_season, f_z, f_spots))) (gA g)) 0 0 (gA g) := by
  refine Met.ofW (cc := cX2_becomePath) (maxL := 3) (ret := none) (by decide) rfl ?_
  intro p e s m args below meth c s₁ B hml hv
  obtain ⟨rfl, hI⟩ := hv
  have hx := B.exec
  have hb := B.bytes
  have hr := B.returns
  have hts := atoms_spec (ws := wsX2_becomePath) B.pre
  have hown : s.vm.findClass RX2 = some m.cls := findClass_of_methodNamed B.named
  have hlocks := B.notSynchronized
  have hP := hI.1
  have hB := hI.2
  have hK := hB.1
  have hNW := hB.2.1
  have hS : va_S (gA g) s.heap s.heap [] := va_S.rf
  have hw0 := hts (.fieldLink RX2 9 "SownPaths$Park" "paths" "[I") (by decide +kernel)
  have hw1 := hts (.initialized RX6) (by decide +kernel)
  have hw2 := hts (.static yX6_put) (by decide +kernel)
  have iwX2 : ∀ w ∈ wsX20, w ∈ wsX2_becomePath := fun w h => List.mem_cons_of_mem _ (List.mem_append_right _ h)
  have hl := lv_entry ([.ref (ga g (1 + k)), .int a1, .int a2]) (n := 3) (Nat.le_of_ble_eq_true rfl)
  rw [lg_entry_eq]
  generalize (lg_sl ([.ref (ga g (1 + k)), .int a1, .int a2]) ++ List.replicate (3 - (lg_sl ([.ref (ga g (1 + k)), .int a1, .int a2])).length) Slot.unset).toArray = ls at hl ⊢
  have hl : lv_has ls 3 [(0, .ref (ga g (1 + k))), (1, .int a1), (2, .int a2)] := hl
  unfold fX2_becomePath at hf
  refine lv_aload_n hx hb dX2_becomePath_0 rfl (lv_at hl 0 rfl) ?_
  refine lv_iload_n hx hb dX2_becomePath_1 rfl (lv_at hl 1 rfl) ?_
  obtain ⟨q1, hq1, hf⟩ := bd_some hf
  refine kr_S (st1 := [.int q1]) (va_runV (As := [.int a1]) (rest := []) ⟨hx, hb, hml, hown, hts⟩ (ct_X2_isGrass l n g (S (f_paths, f_water, f_wall, f_kind, f_place, f_facing, f_age, f_seeds, f_season, f_z, f_spots)) k hk f_paths f_water f_wall f_kind f_place f_facing f_age f_seeds f_season f_z f_spots (hL.1 _) a1 q1 hq1) (cwV 1 hts gX2_becomePath_X2_isGrass rfl rfl rfl hd_X2_isGrass ⟨Nat.le_of_ble_eq_true rfl, Nat.le_of_ble_eq_true rfl⟩) ⟨bl_C, va_recv hK hP (ci := 0) (q0 := (1 + k)) rfl (e_pk hk (hL.1 _) (Q := (f_paths, f_water, f_wall, f_kind, f_place, f_facing, f_age, f_seeds, f_season, f_z, f_spots))), pr_C rfl hB hP hS⟩ rfl rfl hl.1 rfl (lv_room (Nat.le_of_ble_eq_true rfl)) dX2_becomePath_2 ⟨Nat.le_refl _, Nat.le_refl _⟩) rfl (fun hn2 => ?_)
  refine lv_if_eq (tgt := 17) hx hb dX2_becomePath_5 (by decide) (fun hc3 => ?_) (fun hc3 => ?_)
  · have hf := (if_pos hc3).symm.trans hf
    have hres : f_paths = res := (Option.some.inj hf)
    have hP := w_eq (congrArg (fun z => cw g (S (z, f_water, f_wall, f_kind, f_place, f_facing, f_age, f_seeds, f_season, f_z, f_spots))) hres) hP
    exact W.vret hx hb hr (fun t ht hW => ⟨rfl, trivial, by rw [ht]; exact hP, hS.F ht⟩) hS.2.2 dX2_becomePath_17
  · have hf := (if_neg hc3).symm.trans hf
    refine lv_aload_n hx hb dX2_becomePath_8 rfl (lv_at hl 0 rfl) ?_
    refine va_get (D := g.1) (ci := 0) (v := .ref (ga g (16 + k))) (C := RX2) (T := TX2) (N := 8) hx hb hts iwX2 hown hK hP (1 + k) (e_pk hk (hL.1 _) (Q := (f_paths, f_water, f_wall, f_kind, f_place, f_facing, f_age, f_seeds, f_season, f_z, f_spots))) rfl 0 (by decide) hw0 (fun _ h9 => h9) rfl dX2_becomePath_9 ?_
    refine lv_iload_n hx hb dX2_becomePath_12 rfl (lv_at hl 1 rfl) ?_
    refine lv_iload_n hx hb dX2_becomePath_13 rfl (lv_at hl 2 rfl) ?_
    obtain ⟨q4, hq4, hf⟩ := bd_some hf
    refine kr_W (st1 := []) (va_runSN (As := [.ref (ga g (16 + k)), .int a1, .int a2]) (rest := []) ⟨hx, hb, hml, hown, hts⟩ (ct_X6_put l n g (S (f_paths, f_water, f_wall, f_kind, f_place, f_facing, f_age, f_seeds, f_season, f_z, f_spots)) (16 + k) 36 f_paths (e_pa hk (hL.1 _) (Q := (f_paths, f_water, f_wall, f_kind, f_place, f_facing, f_age, f_seeds, f_season, f_z, f_spots))) a1 a2 q4 hq4) (⟨va_cnB 3 hts gX2_becomePath_X6_put_n83 rfl rfl rfl (ml_X2_83 hNW) hw1 hn_X6_put ⟨Nat.le_of_ble_eq_true rfl, Nat.le_of_ble_eq_true rfl⟩, hw2, trivial⟩) ⟨bl_C, pr_C rfl hB hP hS⟩ rfl rfl hl.1 rfl (lv_room (Nat.le_of_ble_eq_true rfl)) dX2_becomePath_14 ⟨Nat.le_refl _, Nat.le_refl _⟩) hS rfl (fun hn5 H locs hP hS => ?_)
    have hP : va_P g.1 vwCl (cw g (S (q4, f_water, f_wall, f_kind, f_place, f_facing, f_age, f_seeds, f_season, f_z, f_spots))) H := w_eq (s_paths (S := S) (P := (f_paths, f_water, f_wall, f_kind, f_place, f_facing, f_age, f_seeds, f_season, f_z, f_spots)) q4 hk hL) hP
    have hres : q4 = res := (Option.some.inj hf)
    have hP := w_eq (congrArg (fun z => cw g (S (z, f_water, f_wall, f_kind, f_place, f_facing, f_age, f_seeds, f_season, f_z, f_spots))) hres) hP
    exact W.vret hx hb hr (fun t ht hW => ⟨rfl, trivial, by rw [ht]; exact hP, hS.F ht⟩) hS.2.2 dX2_becomePath_17
set_option maxHeartbeats 4000000 in
set_option maxRecDepth 100000 in
theorem ct_X6_tread (l : Launch) (n : Nat) (g : GC) (p0_paths : Nat → Int32) (p0_water : Int64) (p0_wall : Int64) (p0_kind : Nat → Int32) (p0_place : Nat → Int32) (p0_facing : Nat → Int32) (p0_age : Nat → Int32) (p0_seeds : Int32) (p0_season : Int32) (p0_z : Int32) (p0_spots : Nat → Int32) (p1_paths : Nat → Int32) (p1_water : Int64) (p1_wall : Int64) (p1_kind : Nat → Int32) (p1_place : Nat → Int32) (p1_facing : Nat → Int32) (p1_age : Nat → Int32) (p1_seeds : Int32) (p1_season : Int32) (p1_z : Int32) (p1_spots : Nat → Int32) (p2_paths : Nat → Int32) (p2_water : Int64) (p2_wall : Int64) (p2_kind : Nat → Int32) (p2_place : Nat → Int32) (p2_facing : Nat → Int32) (p2_age : Nat → Int32) (p2_seeds : Int32) (p2_season : Int32) (p2_z : Int32) (p2_spots : Nat → Int32) (t_bytes : Nat → Int32) (t_length : Int32) (t_sort : Int32) (t_start : Int32) (t_end : Int32) (t_value : Int32) (h_numbers : Nat → Nat → Int32) (h_bits : Nat → Int32) (h_size : Nat → Int32) (w_isKept : Int32) (w_told : Nat → Int32) (a1 : Int32) (a2 : Int32) (res : Int32 × (Nat → Int32) × (Nat → Int32)) (hf : fX6_tread n a1 a2 p0_paths p0_water p0_wall w_told = some res) : Met l yX6_tread wsX6_tread ({ frames := 3, cells := 0, slots := 0, locals := 63 }) (va_Pc [.ref (ga g 0), .int a1, .int a2] (cI g (pk3 (p0_paths, p0_water, p0_wall, p0_kind, p0_place, p0_facing, p0_age, p0_seeds, p0_season, p0_z, p0_spots) (p1_paths, p1_water, p1_wall, p1_kind, p1_place, p1_facing, p1_age, p1_seeds, p1_season, p1_z, p1_spots) (p2_paths, p2_water, p2_wall, p2_kind, p2_place, p2_facing, p2_age, p2_seeds, p2_season, p2_z, p2_spots), w_isKept, (t_bytes, t_length, t_sort, t_start, t_end, t_value), (h_numbers, h_bits, h_size), w_told))) (qW (some (.int res.1)) True g.1 (cw g (pk3 (res.2.1, p0_water, p0_wall, p0_kind, p0_place, p0_facing, p0_age, p0_seeds, p0_season, p0_z, p0_spots) (p1_paths, p1_water, p1_wall, p1_kind, p1_place, p1_facing, p1_age, p1_seeds, p1_season, p1_z, p1_spots) (p2_paths, p2_water, p2_wall, p2_kind, p2_place, p2_facing, p2_age, p2_seeds, p2_season, p2_z, p2_spots), w_isKept, (t_bytes, t_length, t_sort, t_start, t_end, t_value), (h_numbers, h_bits, h_size), res.2.2)) (gA g)) 0 0 (gA g) := by
  refine Met.ofW (cc := cX6_tread) (maxL := 4) (ret := (some .int)) (by decide) rfl ?_
  intro p e s m args below meth c s₁ B hml hv
  obtain ⟨rfl, hI⟩ := hv
  have hx := B.exec
  have hb := B.bytes
  have hr := B.returns
  have hts := atoms_spec (ws := wsX6_tread) B.pre
  have hown : s.vm.findClass RX6 = some m.cls := findClass_of_methodNamed B.named
  have hlocks := B.notSynchronized
  have hP := hI.1
  have hB := hI.2
  have hK := hB.1
  have hNW := hB.2.1
  have hS : va_S (gA g) s.heap s.heap [] := va_S.rf
  have hw0 := hts (.fieldLink RX6 10 "SownPaths" "park" "LSownPaths$Park;") (by decide +kernel)
  have iwX6 : ∀ w ∈ wsX60, w ∈ wsX6_tread := fun w h => List.mem_cons_of_mem _ (List.mem_append_left _ (List.mem_append_right _ h))
  have hl := lv_entry ([.ref (ga g 0), .int a1, .int a2]) (n := 4) (Nat.le_of_ble_eq_true rfl)
  rw [lg_entry_eq]
  generalize (lg_sl ([.ref (ga g 0), .int a1, .int a2]) ++ List.replicate (4 - (lg_sl ([.ref (ga g 0), .int a1, .int a2])).length) Slot.unset).toArray = ls at hl ⊢
  have hl : lv_has ls 4 [(0, .ref (ga g 0)), (1, .int a1), (2, .int a2)] := hl
  unfold fX6_tread at hf
  refine lv_iload_n hx hb dX6_tread_0 rfl (lv_at hl 1 rfl) ?_
  obtain ⟨q1, hq1, hf⟩ := bd_some hf
  refine kr_S (st1 := [.int q1]) (va_runS (As := [.int a1]) (rest := []) ⟨hx, hb, hml, hown, hts⟩ (ct_X6_isCell l n a1 q1 hq1) (va_cwS 1 hts gX6_tread_X6_isCell rfl rfl rfl hn_X6_isCell ⟨Nat.le_of_ble_eq_true rfl, Nat.le_of_ble_eq_true rfl⟩) ⟨bl_N, pr_N rfl hNW⟩ rfl rfl hl.1 rfl (lv_room (Nat.le_of_ble_eq_true rfl)) dX6_tread_1 ⟨Nat.le_refl _, Nat.le_refl _⟩) rfl (fun hn2 => ?_)
  refine lv_if_eq (tgt := 17) hx hb dX6_tread_4 (by decide) (fun hc3 => ?_) (fun hc3 => ?_)
  · have hf := (if_pos hc3).symm.trans hf
    refine lv_aload_n hx hb dX6_tread_17 rfl (lv_at hl 0 rfl) ?_
    refine lv_iconst (v := (0 : Int32)) hx hb dX6_tread_18 (by decide) ?_
    obtain ⟨q4, hq4, hf⟩ := bd_some hf
    refine kr_W (st1 := [.int q4.1]) (va_runV (As := [.int (0 : Int32)]) (rest := []) ⟨hx, hb, hml, hown, hts⟩ (ct_X6_finding l n g p0_paths p0_water p0_wall p0_kind p0_place p0_facing p0_age p0_seeds p0_season p0_z p0_spots p1_paths p1_water p1_wall p1_kind p1_place p1_facing p1_age p1_seeds p1_season p1_z p1_spots p2_paths p2_water p2_wall p2_kind p2_place p2_facing p2_age p2_seeds p2_season p2_z p2_spots t_bytes t_length t_sort t_start t_end t_value h_numbers h_bits h_size w_isKept w_told (0 : Int32) q4 hq4) (cwV 1 hts gX6_tread_X6_finding rfl rfl rfl hd_X6_finding ⟨Nat.le_of_ble_eq_true rfl, Nat.le_of_ble_eq_true rfl⟩) ⟨bl_C, va_recv hK hP (ci := 4) (q0 := 0) rfl q_sp, pr_C rfl hB hP hS⟩ rfl rfl hl.1 rfl (lv_room (Nat.le_of_ble_eq_true rfl)) dX6_tread_19 ⟨Nat.le_refl _, Nat.le_refl _⟩) hS rfl (fun hn5 H locs hP hS => ?_)
    have hP : va_P g.1 vwCl (cw g (pk3 (p0_paths, p0_water, p0_wall, p0_kind, p0_place, p0_facing, p0_age, p0_seeds, p0_season, p0_z, p0_spots) (p1_paths, p1_water, p1_wall, p1_kind, p1_place, p1_facing, p1_age, p1_seeds, p1_season, p1_z, p1_spots) (p2_paths, p2_water, p2_wall, p2_kind, p2_place, p2_facing, p2_age, p2_seeds, p2_season, p2_z, p2_spots), w_isKept, (t_bytes, t_length, t_sort, t_start, t_end, t_value), (h_numbers, h_bits, h_size), q4.2)) H := hP
    have hres : (q4.1, p0_paths, q4.2) = res := (Option.some.inj hf)
    have hP := w_eq (congrArg (fun z => cw g (pk3 (z.2.1, p0_water, p0_wall, p0_kind, p0_place, p0_facing, p0_age, p0_seeds, p0_season, p0_z, p0_spots) (p1_paths, p1_water, p1_wall, p1_kind, p1_place, p1_facing, p1_age, p1_seeds, p1_season, p1_z, p1_spots) (p2_paths, p2_water, p2_wall, p2_kind, p2_place, p2_facing, p2_age, p2_seeds, p2_season, p2_z, p2_spots), w_isKept, (t_bytes, t_length, t_sort, t_start, t_end, t_value), (h_numbers, h_bits, h_size), z.2.2)) hres) hP
    exact W.iret (v := q4.1) hx hb hr (fun t ht hW => ⟨congrArg (fun z => Outcome.returned (some (Value.int z.1))) hres, trivial, by rw [ht]; exact hP, hS.F ht⟩) hS.2.2 dX6_tread_22
  · have hf := (if_neg hc3).symm.trans hf
    refine lv_iload_n hx hb dX6_tread_7 rfl (lv_at hl 2 rfl) ?_
    refine lv_iconst (v := (0 : Int32)) hx hb dX6_tread_8 (by decide) ?_
    refine lv_bipush (v := (99 : Int32)) hx hb dX6_tread_9 (by decide) ?_
    obtain ⟨q6, hq6, hf⟩ := bd_some hf
    refine kr_S (st1 := [.int q6]) (va_runS (As := [.int a2, .int (0 : Int32), .int (99 : Int32)]) (rest := []) ⟨hx, hb, hml, hown, hts⟩ (ct_X6_within l n a2 (0 : Int32) (99 : Int32) q6 hq6) (va_cwS 3 hts gX6_tread_X6_within rfl rfl rfl hn_X6_within ⟨Nat.le_of_ble_eq_true rfl, Nat.le_of_ble_eq_true rfl⟩) ⟨bl_N, pr_N rfl hNW⟩ rfl rfl hl.1 rfl (lv_room (Nat.le_of_ble_eq_true rfl)) dX6_tread_11 ⟨Nat.le_refl _, Nat.le_refl _⟩) rfl (fun hn7 => ?_)
    refine lv_if_ne (tgt := 23) hx hb dX6_tread_14 (by decide) (fun hc8 => ?_) (fun hc8 => ?_)
    · have hf := (if_neg hc8).symm.trans hf
      refine lv_aload_n hx hb dX6_tread_23 rfl (lv_at hl 0 rfl) ?_
      refine va_get (D := g.1) (ci := 4) (v := .ref (ga g (1 + 0))) (C := RX6) (T := TX6) (N := 7) hx hb hts iwX6 hown hK hP 0 q_sp rfl 0 (by decide) hw0 (fun _ h9 => h9) rfl dX6_tread_24 ?_
      refine lv_iload_n hx hb dX6_tread_27 rfl (lv_at hl 1 rfl) ?_
      obtain ⟨q9, hq9, hf⟩ := bd_some hf
      refine kr_S (st1 := [.int q9]) (va_runV (As := [.int a1]) (rest := []) ⟨hx, hb, hml, hown, hts⟩ (ct_X2_isGrass l n g (pk3 (p0_paths, p0_water, p0_wall, p0_kind, p0_place, p0_facing, p0_age, p0_seeds, p0_season, p0_z, p0_spots) (p1_paths, p1_water, p1_wall, p1_kind, p1_place, p1_facing, p1_age, p1_seeds, p1_season, p1_z, p1_spots) (p2_paths, p2_water, p2_wall, p2_kind, p2_place, p2_facing, p2_age, p2_seeds, p2_season, p2_z, p2_spots), w_isKept, (t_bytes, t_length, t_sort, t_start, t_end, t_value), (h_numbers, h_bits, h_size), w_told) 0 (by decide) p0_paths p0_water p0_wall p0_kind p0_place p0_facing p0_age p0_seeds p0_season p0_z p0_spots rfl a1 q9 hq9) (cwV 1 hts gX6_tread_X2_isGrass rfl rfl rfl hd_X2_isGrass ⟨Nat.le_of_ble_eq_true rfl, Nat.le_of_ble_eq_true rfl⟩) ⟨bl_C, va_recv hK hP (ci := 0) (q0 := (1 + 0)) rfl (e_pk (by decide) rfl (Q := (p0_paths, p0_water, p0_wall, p0_kind, p0_place, p0_facing, p0_age, p0_seeds, p0_season, p0_z, p0_spots))), pr_C rfl hB hP hS⟩ rfl rfl hl.1 rfl (lv_room (Nat.le_of_ble_eq_true rfl)) dX6_tread_28 ⟨Nat.le_refl _, Nat.le_refl _⟩) rfl (fun hn10 => ?_)
      refine lv_if_ne (tgt := 40) hx hb dX6_tread_31 (by decide) (fun hc11 => ?_) (fun hc11 => ?_)
      · have hf := (if_neg hc11).symm.trans hf
        refine lv_aload_n hx hb dX6_tread_40 rfl (lv_at hl 0 rfl) ?_
        refine va_get (D := g.1) (ci := 4) (v := .ref (ga g (1 + 0))) (C := RX6) (T := TX6) (N := 7) hx hb hts iwX6 hown hK hP 0 q_sp rfl 0 (by decide) hw0 (fun _ h9 => h9) rfl dX6_tread_41 ?_
        refine lv_iload_n hx hb dX6_tread_44 rfl (lv_at hl 1 rfl) ?_
        obtain ⟨q12, hq12, hf⟩ := bd_some hf
        refine kr_S (st1 := [.int q12]) (va_runV (As := [.int a1]) (rest := []) ⟨hx, hb, hml, hown, hts⟩ (ct_X2_pathOf l n g (pk3 (p0_paths, p0_water, p0_wall, p0_kind, p0_place, p0_facing, p0_age, p0_seeds, p0_season, p0_z, p0_spots) (p1_paths, p1_water, p1_wall, p1_kind, p1_place, p1_facing, p1_age, p1_seeds, p1_season, p1_z, p1_spots) (p2_paths, p2_water, p2_wall, p2_kind, p2_place, p2_facing, p2_age, p2_seeds, p2_season, p2_z, p2_spots), w_isKept, (t_bytes, t_length, t_sort, t_start, t_end, t_value), (h_numbers, h_bits, h_size), w_told) 0 (by decide) p0_paths p0_water p0_wall p0_kind p0_place p0_facing p0_age p0_seeds p0_season p0_z p0_spots rfl a1 q12 hq12) (cwV 1 hts gX6_tread_X2_pathOf rfl rfl rfl hd_X2_pathOf ⟨Nat.le_of_ble_eq_true rfl, Nat.le_of_ble_eq_true rfl⟩) ⟨bl_C, va_recv hK hP (ci := 0) (q0 := (1 + 0)) rfl (e_pk (by decide) rfl (Q := (p0_paths, p0_water, p0_wall, p0_kind, p0_place, p0_facing, p0_age, p0_seeds, p0_season, p0_z, p0_spots))), pr_C rfl hB hP hS⟩ rfl rfl hl.1 rfl (lv_room (Nat.le_of_ble_eq_true rfl)) dX6_tread_45 ⟨Nat.le_refl _, Nat.le_refl _⟩) rfl (fun hn13 => ?_)
        refine lv_istore_n (lv' := [(3, .int q12), (0, .ref (ga g 0)), (1, .int a1), (2, .int a2)]) hx hb dX6_tread_48 rfl hl (by decide) rfl (fun ls hl => ?_)
        refine lv_aload_n hx hb dX6_tread_49 rfl (lv_at hl 1 rfl) ?_
        refine va_get (D := g.1) (ci := 4) (v := .ref (ga g (1 + 0))) (C := RX6) (T := TX6) (N := 7) hx hb hts iwX6 hown hK hP 0 q_sp rfl 0 (by decide) hw0 (fun _ h9 => h9) rfl dX6_tread_50 ?_
        refine lv_iload_n hx hb dX6_tread_53 rfl (lv_at hl 2 rfl) ?_
        refine lv_iload_n hx hb dX6_tread_54 rfl (lv_at hl 3 rfl) ?_
        obtain ⟨q14, hq14, hf⟩ := bd_some hf
        refine kr_W (st1 := []) (va_runV (As := [.int a1, .int a2]) (rest := []) ⟨hx, hb, hml, hown, hts⟩ (ct_X2_becomePath l n g (fun P => (pk3 P (p1_paths, p1_water, p1_wall, p1_kind, p1_place, p1_facing, p1_age, p1_seeds, p1_season, p1_z, p1_spots) (p2_paths, p2_water, p2_wall, p2_kind, p2_place, p2_facing, p2_age, p2_seeds, p2_season, p2_z, p2_spots), w_isKept, (t_bytes, t_length, t_sort, t_start, t_end, t_value), (h_numbers, h_bits, h_size), w_told)) 0 (by decide) zP0 p0_paths p0_water p0_wall p0_kind p0_place p0_facing p0_age p0_seeds p0_season p0_z p0_spots a1 a2 q14 hq14) (cwV 2 hts gX6_tread_X2_becomePath rfl rfl rfl hd_X2_becomePath ⟨Nat.le_of_ble_eq_true rfl, Nat.le_of_ble_eq_true rfl⟩) ⟨bl_C, va_recv hK hP (ci := 0) (q0 := (1 + 0)) rfl (e_pk (by decide) rfl (Q := (p0_paths, p0_water, p0_wall, p0_kind, p0_place, p0_facing, p0_age, p0_seeds, p0_season, p0_z, p0_spots))), pr_C rfl hB hP hS⟩ rfl rfl hl.1 rfl (lv_room (Nat.le_of_ble_eq_true rfl)) dX6_tread_55 ⟨Nat.le_refl _, Nat.le_refl _⟩) hS rfl (fun hn15 H locs hP hS => ?_)
        have hP : va_P g.1 vwCl (cw g (pk3 (q14, p0_water, p0_wall, p0_kind, p0_place, p0_facing, p0_age, p0_seeds, p0_season, p0_z, p0_spots) (p1_paths, p1_water, p1_wall, p1_kind, p1_place, p1_facing, p1_age, p1_seeds, p1_season, p1_z, p1_spots) (p2_paths, p2_water, p2_wall, p2_kind, p2_place, p2_facing, p2_age, p2_seeds, p2_season, p2_z, p2_spots), w_isKept, (t_bytes, t_length, t_sort, t_start, t_end, t_value), (h_numbers, h_bits, h_size), w_told)) H := hP
        refine lv_iload_n hx hb dX6_tread_58 rfl (lv_at hl 0 rfl) ?_
        have hres : (q12, q14, w_told) = res := (Option.some.inj hf)
        have hP := w_eq (congrArg (fun z => cw g (pk3 (z.2.1, p0_water, p0_wall, p0_kind, p0_place, p0_facing, p0_age, p0_seeds, p0_season, p0_z, p0_spots) (p1_paths, p1_water, p1_wall, p1_kind, p1_place, p1_facing, p1_age, p1_seeds, p1_season, p1_z, p1_spots) (p2_paths, p2_water, p2_wall, p2_kind, p2_place, p2_facing, p2_age, p2_seeds, p2_season, p2_z, p2_spots), w_isKept, (t_bytes, t_length, t_sort, t_start, t_end, t_value), (h_numbers, h_bits, h_size), z.2.2)) hres) hP
        exact W.iret (v := q12) hx hb hr (fun t ht hW => ⟨congrArg (fun z => Outcome.returned (some (Value.int z.1))) hres, trivial, by rw [ht]; exact hP, hS.F ht⟩) hS.2.2 dX6_tread_59
      · have hf := (if_pos hc11).symm.trans hf
        refine lv_aload_n hx hb dX6_tread_34 rfl (lv_at hl 0 rfl) ?_
        refine lv_iconst (v := (4 : Int32)) hx hb dX6_tread_35 (by decide) ?_
        obtain ⟨q16, hq16, hf⟩ := bd_some hf
        refine kr_W (st1 := [.int q16.1]) (va_runV (As := [.int (4 : Int32)]) (rest := []) ⟨hx, hb, hml, hown, hts⟩ (ct_X6_finding l n g p0_paths p0_water p0_wall p0_kind p0_place p0_facing p0_age p0_seeds p0_season p0_z p0_spots p1_paths p1_water p1_wall p1_kind p1_place p1_facing p1_age p1_seeds p1_season p1_z p1_spots p2_paths p2_water p2_wall p2_kind p2_place p2_facing p2_age p2_seeds p2_season p2_z p2_spots t_bytes t_length t_sort t_start t_end t_value h_numbers h_bits h_size w_isKept w_told (4 : Int32) q16 hq16) (cwV 1 hts gX6_tread_X6_finding rfl rfl rfl hd_X6_finding ⟨Nat.le_of_ble_eq_true rfl, Nat.le_of_ble_eq_true rfl⟩) ⟨bl_C, va_recv hK hP (ci := 4) (q0 := 0) rfl q_sp, pr_C rfl hB hP hS⟩ rfl rfl hl.1 rfl (lv_room (Nat.le_of_ble_eq_true rfl)) dX6_tread_36 ⟨Nat.le_refl _, Nat.le_refl _⟩) hS rfl (fun hn17 H locs hP hS => ?_)
        have hP : va_P g.1 vwCl (cw g (pk3 (p0_paths, p0_water, p0_wall, p0_kind, p0_place, p0_facing, p0_age, p0_seeds, p0_season, p0_z, p0_spots) (p1_paths, p1_water, p1_wall, p1_kind, p1_place, p1_facing, p1_age, p1_seeds, p1_season, p1_z, p1_spots) (p2_paths, p2_water, p2_wall, p2_kind, p2_place, p2_facing, p2_age, p2_seeds, p2_season, p2_z, p2_spots), w_isKept, (t_bytes, t_length, t_sort, t_start, t_end, t_value), (h_numbers, h_bits, h_size), q16.2)) H := hP
        have hres : (q16.1, p0_paths, q16.2) = res := (Option.some.inj hf)
        have hP := w_eq (congrArg (fun z => cw g (pk3 (z.2.1, p0_water, p0_wall, p0_kind, p0_place, p0_facing, p0_age, p0_seeds, p0_season, p0_z, p0_spots) (p1_paths, p1_water, p1_wall, p1_kind, p1_place, p1_facing, p1_age, p1_seeds, p1_season, p1_z, p1_spots) (p2_paths, p2_water, p2_wall, p2_kind, p2_place, p2_facing, p2_age, p2_seeds, p2_season, p2_z, p2_spots), w_isKept, (t_bytes, t_length, t_sort, t_start, t_end, t_value), (h_numbers, h_bits, h_size), z.2.2)) hres) hP
        exact W.iret (v := q16.1) hx hb hr (fun t ht hW => ⟨congrArg (fun z => Outcome.returned (some (Value.int z.1))) hres, trivial, by rw [ht]; exact hP, hS.F ht⟩) hS.2.2 dX6_tread_39
    · have hf := (if_pos hc8).symm.trans hf
      refine lv_aload_n hx hb dX6_tread_17 rfl (lv_at hl 0 rfl) ?_
      refine lv_iconst (v := (0 : Int32)) hx hb dX6_tread_18 (by decide) ?_
      obtain ⟨q18, hq18, hf⟩ := bd_some hf
      refine kr_W (st1 := [.int q18.1]) (va_runV (As := [.int (0 : Int32)]) (rest := []) ⟨hx, hb, hml, hown, hts⟩ (ct_X6_finding l n g p0_paths p0_water p0_wall p0_kind p0_place p0_facing p0_age p0_seeds p0_season p0_z p0_spots p1_paths p1_water p1_wall p1_kind p1_place p1_facing p1_age p1_seeds p1_season p1_z p1_spots p2_paths p2_water p2_wall p2_kind p2_place p2_facing p2_age p2_seeds p2_season p2_z p2_spots t_bytes t_length t_sort t_start t_end t_value h_numbers h_bits h_size w_isKept w_told (0 : Int32) q18 hq18) (cwV 1 hts gX6_tread_X6_finding rfl rfl rfl hd_X6_finding ⟨Nat.le_of_ble_eq_true rfl, Nat.le_of_ble_eq_true rfl⟩) ⟨bl_C, va_recv hK hP (ci := 4) (q0 := 0) rfl q_sp, pr_C rfl hB hP hS⟩ rfl rfl hl.1 rfl (lv_room (Nat.le_of_ble_eq_true rfl)) dX6_tread_19 ⟨Nat.le_refl _, Nat.le_refl _⟩) hS rfl (fun hn19 H locs hP hS => ?_)
      have hP : va_P g.1 vwCl (cw g (pk3 (p0_paths, p0_water, p0_wall, p0_kind, p0_place, p0_facing, p0_age, p0_seeds, p0_season, p0_z, p0_spots) (p1_paths, p1_water, p1_wall, p1_kind, p1_place, p1_facing, p1_age, p1_seeds, p1_season, p1_z, p1_spots) (p2_paths, p2_water, p2_wall, p2_kind, p2_place, p2_facing, p2_age, p2_seeds, p2_season, p2_z, p2_spots), w_isKept, (t_bytes, t_length, t_sort, t_start, t_end, t_value), (h_numbers, h_bits, h_size), q18.2)) H := hP
      have hres : (q18.1, p0_paths, q18.2) = res := (Option.some.inj hf)
      have hP := w_eq (congrArg (fun z => cw g (pk3 (z.2.1, p0_water, p0_wall, p0_kind, p0_place, p0_facing, p0_age, p0_seeds, p0_season, p0_z, p0_spots) (p1_paths, p1_water, p1_wall, p1_kind, p1_place, p1_facing, p1_age, p1_seeds, p1_season, p1_z, p1_spots) (p2_paths, p2_water, p2_wall, p2_kind, p2_place, p2_facing, p2_age, p2_seeds, p2_season, p2_z, p2_spots), w_isKept, (t_bytes, t_length, t_sort, t_start, t_end, t_value), (h_numbers, h_bits, h_size), z.2.2)) hres) hP
      exact W.iret (v := q18.1) hx hb hr (fun t ht hW => ⟨congrArg (fun z => Outcome.returned (some (Value.int z.1))) hres, trivial, by rw [ht]; exact hP, hS.F ht⟩) hS.2.2 dX6_tread_22
