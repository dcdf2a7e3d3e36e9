/-! CONTRACTS, by program -/
set_option maxHeartbeats 4000000 in
set_option maxRecDepth 100000 in
theorem ct_X6_within (l : Launch) (n : Nat) (a0 : Int32) (a1 : Int32) (a2 : Int32) (res : Int32) (hf : fX6_within n a0 a1 a2 = some res) : Met l yX6_within wsX6_within ({ frames := 0, cells := 0, slots := 0, locals := 0 }) (va_Pc [.int a0, .int a1, .int a2] NW) (qS (some (.int res)) (narrow .boolean (.int res) = .int res)) 0 0 (fun _ => False) := by
  refine Met.ofW (cc := cX6_within) (maxL := 3) (ret := (some .boolean)) (by decide) rfl ?_
  intro p e s m args below meth c s₁ B hml hv
  obtain ⟨rfl, hI⟩ := hv
  have hx := B.exec
  have hb := B.bytes
  have hr := B.returns
  have hts := atoms_spec (ws := wsX6_within) B.pre
  have hown : s.vm.findClass RX6 = some m.cls := findClass_of_methodNamed B.named
  have hlocks := B.notSynchronized
  have hNW : NW s := hI
  have hl := lv_entry ([.int a0, .int a1, .int a2]) (n := 3) (Nat.le_of_ble_eq_true rfl)
  rw [lg_entry_eq]
  generalize (lg_sl ([.int a0, .int a1, .int a2]) ++ List.replicate (3 - (lg_sl ([.int a0, .int a1, .int a2])).length) Slot.unset).toArray = ls at hl ⊢
  have hl : lv_has ls 3 [(0, .int a0), (1, .int a1), (2, .int a2)] := hl
  unfold fX6_within at hf
  refine lv_iload_n hx hb dX6_within_0 rfl (lv_at hl 0 rfl) ?_
  refine lv_iload_n hx hb dX6_within_1 rfl (lv_at hl 1 rfl) ?_
  refine lv_icmp_lt (tgt := 14) hx hb dX6_within_2 (by decide) (fun hc1 => ?_) (fun hc1 => ?_)
  · have hf := (if_pos hc1).symm.trans hf
    refine lv_iconst (v := (0 : Int32)) hx hb dX6_within_14 (by decide) ?_
    have hres : (0 : Int32) = res := (Option.some.inj hf)
    have hnr : narrow .boolean (.int (0 : Int32)) = .int (0 : Int32) := rfl
    exact W.zret (v := (0 : Int32)) hx hb hr hnr (fun t ht hW => ⟨congrArg (fun z => Outcome.returned (some (Value.int z))) hres, Eq.mp (congrArg (fun z => narrow .boolean (.int z) = .int z) hres) hnr, ht⟩) t_nil dX6_within_15
  · have hf := (if_neg hc1).symm.trans hf
    refine lv_iload_n hx hb dX6_within_5 rfl (lv_at hl 0 rfl) ?_
    refine lv_iload_n hx hb dX6_within_6 rfl (lv_at hl 2 rfl) ?_
    refine lv_icmp_gt (tgt := 14) hx hb dX6_within_7 (by decide) (fun hc2 => ?_) (fun hc2 => ?_)
    · have hf := (if_pos hc2).symm.trans hf
      refine lv_iconst (v := (0 : Int32)) hx hb dX6_within_14 (by decide) ?_
      have hres : (0 : Int32) = res := (Option.some.inj hf)
      have hnr : narrow .boolean (.int (0 : Int32)) = .int (0 : Int32) := rfl
      exact W.zret (v := (0 : Int32)) hx hb hr hnr (fun t ht hW => ⟨congrArg (fun z => Outcome.returned (some (Value.int z))) hres, Eq.mp (congrArg (fun z => narrow .boolean (.int z) = .int z) hres) hnr, ht⟩) t_nil dX6_within_15
    · have hf := (if_neg hc2).symm.trans hf
      refine lv_iconst (v := (1 : Int32)) hx hb dX6_within_10 (by decide) ?_
      refine lv_goto (tgt := 15) hx hb dX6_within_11 (by decide) ?_
      have hres : (1 : Int32) = res := (Option.some.inj hf)
      have hnr : narrow .boolean (.int (1 : Int32)) = .int (1 : Int32) := rfl
      exact W.zret (v := (1 : Int32)) hx hb hr hnr (fun t ht hW => ⟨congrArg (fun z => Outcome.returned (some (Value.int z))) hres, Eq.mp (congrArg (fun z => narrow .boolean (.int z) = .int z) hres) hnr, ht⟩) t_nil dX6_within_15
set_option maxHeartbeats 4000000 in
set_option maxRecDepth 100000 in
theorem ct_X6_isCell (l : Launch) (n : Nat) (a0 : Int32) (res : Int32) (hf : fX6_isCell n a0 = some res) : Met l yX6_isCell wsX6_isCell ({ frames := 1, cells := 0, slots := 0, locals := 22 }) (va_Pc [.int a0] NW) (qS (some (.int res)) (narrow .boolean (.int res) = .int res)) 0 0 (fun _ => False) := by
  refine Met.ofW (cc := cX6_isCell) (maxL := 1) (ret := (some .boolean)) (by decide) rfl ?_
  intro p e s m args below meth c s₁ B hml hv
  obtain ⟨rfl, hI⟩ := hv
  have hx := B.exec
  have hb := B.bytes
  have hr := B.returns
  have hts := atoms_spec (ws := wsX6_isCell) B.pre
  have hown : s.vm.findClass RX6 = some m.cls := findClass_of_methodNamed B.named
  have hlocks := B.notSynchronized
  have hNW : NW s := hI
  have hl := lv_entry ([.int a0]) (n := 1) (Nat.le_of_ble_eq_true rfl)
  rw [lg_entry_eq]
  generalize (lg_sl ([.int a0]) ++ List.replicate (1 - (lg_sl ([.int a0])).length) Slot.unset).toArray = ls at hl ⊢
  have hl : lv_has ls 1 [(0, .int a0)] := hl
  unfold fX6_isCell at hf
  refine lv_iload_n hx hb dX6_isCell_0 rfl (lv_at hl 0 rfl) ?_
  refine lv_iconst (v := (0 : Int32)) hx hb dX6_isCell_1 (by decide) ?_
  refine lv_bipush (v := (35 : Int32)) hx hb dX6_isCell_2 (by decide) ?_
  obtain ⟨q1, hq1, hf⟩ := bd_some hf
  refine kr_S (st1 := [.int q1]) (va_runS (As := [.int a0, .int (0 : Int32), .int (35 : Int32)]) (rest := []) ⟨hx, hb, hml, hown, hts⟩ (ct_X6_within l n a0 (0 : Int32) (35 : Int32) q1 hq1) (va_cwS 3 hts gX6_isCell_X6_within rfl rfl rfl hn_X6_within ⟨Nat.le_of_ble_eq_true rfl, Nat.le_of_ble_eq_true rfl⟩) ⟨bl_N, pr_N rfl hNW⟩ rfl rfl hl.1 rfl (lv_room (Nat.le_of_ble_eq_true rfl)) dX6_isCell_4 ⟨Nat.le_refl _, Nat.le_refl _⟩) rfl (fun hn2 => ?_)
  have hres : q1 = res := (Option.some.inj hf)
  have hnr : narrow .boolean (.int q1) = .int q1 := hn2
  exact W.zret (v := q1) hx hb hr hnr (fun t ht hW => ⟨congrArg (fun z => Outcome.returned (some (Value.int z))) hres, Eq.mp (congrArg (fun z => narrow .boolean (.int z) = .int z) hres) hnr, ht⟩) t_nil dX6_isCell_7
set_option maxHeartbeats 4000000 in
set_option maxRecDepth 100000 in
theorem ct_X6_at (l : Launch) (n : Nat) (g : GC) (σ : CS) (q : Nat) (nn : Nat) (r_row : Nat → Int32) (hq : (cw g σ)[q]? = some (ga g q, cIA g nn r_row)) (a1 : Int32) (res : Int32) (hf : fX6_at n nn a1 r_row = some res) : Met l yX6_at wsX6_at ({ frames := 0, cells := 0, slots := 0, locals := 0 }) (va_Pc [.ref (ga g q), .int a1] (cI g σ)) (qS (some (.int res)) True) 0 0 (fun _ => False) := by
  refine Met.ofW (cc := cX6_at) (maxL := 2) (ret := (some .int)) (by decide) rfl ?_
  intro p e s m args below meth c s₁ B hml hv
  obtain ⟨rfl, hI⟩ := hv
  have hx := B.exec
  have hb := B.bytes
  have hr := B.returns
  have hts := atoms_spec (ws := wsX6_at) B.pre
  have hown : s.vm.findClass RX6 = some m.cls := findClass_of_methodNamed B.named
  have hlocks := B.notSynchronized
  have hP := hI.1
  have hB := hI.2
  have hK := hB.1
  have hNW := hB.2.1
  have hS : va_S (gA g) s.heap s.heap [] := va_S.rf
  have hl := lv_entry ([.ref (ga g q), .int a1]) (n := 2) (Nat.le_of_ble_eq_true rfl)
  rw [lg_entry_eq]
  generalize (lg_sl ([.ref (ga g q), .int a1]) ++ List.replicate (2 - (lg_sl ([.ref (ga g q), .int a1])).length) Slot.unset).toArray = ls at hl ⊢
  have hl : lv_has ls 2 [(0, .ref (ga g q)), (1, .int a1)] := hl
  unfold fX6_at at hf
  refine lv_iload_n hx hb dX6_at_0 rfl (lv_at hl 1 rfl) ?_
  refine lv_if_lt (tgt := 16) hx hb dX6_at_1 (by decide) (fun hc1 => ?_) (fun hc1 => ?_)
  · have hf := (if_pos hc1).symm.trans hf
    refine lv_iconst (v := (0 : Int32)) hx hb dX6_at_16 (by decide) ?_
    have hres : (0 : Int32) = res := (Option.some.inj hf)
    exact W.iret (v := (0 : Int32)) hx hb hr (fun t ht hW => ⟨congrArg (fun z => Outcome.returned (some (Value.int z))) hres, trivial, ht⟩) t_nil dX6_at_17
  · have hf := (if_neg hc1).symm.trans hf
    refine lv_iload_n hx hb dX6_at_4 rfl (lv_at hl 1 rfl) ?_
    refine lv_aload_n hx hb dX6_at_5 rfl (lv_at hl 0 rfl) ?_
    refine va_alen (v := (nI nn)) hx hb hK hP q 0 hq rfl rfl dX6_at_6 ?_
    refine lv_icmp_ge (tgt := 16) hx hb dX6_at_7 (by decide) (fun hc2 => ?_) (fun hc2 => ?_)
    · have hf := (if_pos hc2).symm.trans hf
      refine lv_iconst (v := (0 : Int32)) hx hb dX6_at_16 (by decide) ?_
      have hres : (0 : Int32) = res := (Option.some.inj hf)
      exact W.iret (v := (0 : Int32)) hx hb hr (fun t ht hW => ⟨congrArg (fun z => Outcome.returned (some (Value.int z))) hres, trivial, ht⟩) t_nil dX6_at_17
    · have hf := (if_neg hc2).symm.trans hf
      refine lv_aload_n hx hb dX6_at_10 rfl (lv_at hl 0 rfl) ?_
      refine lv_iload_n hx hb dX6_at_11 rfl (lv_at hl 1 rfl) ?_
      obtain ⟨hg3, hf⟩ := gd_some hf
      refine va_iald (f := r_row) hx hb hK hP q 0 hq rfl hg3 dX6_at_12 ?_
      refine lv_goto (tgt := 17) hx hb dX6_at_13 (by decide) ?_
      have hres : (r_row a1.toNatClampNeg) = res := (Option.some.inj hf)
      exact W.iret (v := (r_row a1.toNatClampNeg)) hx hb hr (fun t ht hW => ⟨congrArg (fun z => Outcome.returned (some (Value.int z))) hres, trivial, ht⟩) t_nil dX6_at_17
set_option maxHeartbeats 4000000 in
set_option maxRecDepth 100000 in
theorem ct_X6_put (l : Launch) (n : Nat) (g : GC) (σ : CS) (q : Nat) (nn : Nat) (r_row : Nat → Int32) (hq : (cw g σ)[q]? = some (ga g q, cIA g nn r_row)) (a1 : Int32) (a2 : Int32) (res : (Nat → Int32)) (hf : fX6_put n nn a1 a2 r_row = some res) : Met l yX6_put wsX6_put ({ frames := 0, cells := 0, slots := 0, locals := 0 }) (va_Pc [.ref (ga g q), .int a1, .int a2] (cI g σ)) (qW none True g.1 (((cw g σ).set q (ga g q, cIA g nn res))) (gA g)) 0 0 (gA g) := by
  refine Met.ofW (cc := cX6_put) (maxL := 3) (ret := none) (by decide) rfl ?_
  intro p e s m args below meth c s₁ B hml hv
  obtain ⟨rfl, hI⟩ := hv
  have hx := B.exec
  have hb := B.bytes
  have hr := B.returns
  have hts := atoms_spec (ws := wsX6_put) B.pre
  have hown : s.vm.findClass RX6 = some m.cls := findClass_of_methodNamed B.named
  have hlocks := B.notSynchronized
  have hP := hI.1
  have hB := hI.2
  have hK := hB.1
  have hNW := hB.2.1
  have hS : va_S (gA g) s.heap s.heap [] := va_S.rf
  have hP : va_P g.1 vwCl (((cw g σ).set q (ga g q, cIA g nn r_row))) s.heap := w_eq (set_same hq).symm hP
  have hl := lv_entry ([.ref (ga g q), .int a1, .int a2]) (n := 3) (Nat.le_of_ble_eq_true rfl)
  rw [lg_entry_eq]
  generalize (lg_sl ([.ref (ga g q), .int a1, .int a2]) ++ List.replicate (3 - (lg_sl ([.ref (ga g q), .int a1, .int a2])).length) Slot.unset).toArray = ls at hl ⊢
  have hl : lv_has ls 3 [(0, .ref (ga g q)), (1, .int a1), (2, .int a2)] := hl
  unfold fX6_put at hf
  refine lv_iload_n hx hb dX6_put_0 rfl (lv_at hl 1 rfl) ?_
  refine lv_if_lt (tgt := 14) hx hb dX6_put_1 (by decide) (fun hc1 => ?_) (fun hc1 => ?_)
  · have hf := (if_pos hc1).symm.trans hf
    have hres : r_row = res := (Option.some.inj hf)
    have hP : va_P g.1 vwCl (((cw g σ).set q (ga g q, cIA g nn res))) H := by rw [← hres]; exact hP
    exact W.vret hx hb hr (fun t ht hW => ⟨rfl, trivial, by rw [ht]; exact hP, hS.F ht⟩) hS.2.2 dX6_put_14
  · have hf := (if_neg hc1).symm.trans hf
    refine lv_iload_n hx hb dX6_put_4 rfl (lv_at hl 1 rfl) ?_
    refine lv_aload_n hx hb dX6_put_5 rfl (lv_at hl 0 rfl) ?_
    refine va_alen (v := (nI nn)) hx hb hK hP q 0 (set_at _ hq) rfl rfl dX6_put_6 ?_
    refine lv_icmp_ge (tgt := 14) hx hb dX6_put_7 (by decide) (fun hc2 => ?_) (fun hc2 => ?_)
    · have hf := (if_pos hc2).symm.trans hf
      have hres : r_row = res := (Option.some.inj hf)
      have hP : va_P g.1 vwCl (((cw g σ).set q (ga g q, cIA g nn res))) H := by rw [← hres]; exact hP
      exact W.vret hx hb hr (fun t ht hW => ⟨rfl, trivial, by rw [ht]; exact hP, hS.F ht⟩) hS.2.2 dX6_put_14
    · have hf := (if_neg hc2).symm.trans hf
      refine lv_aload_n hx hb dX6_put_10 rfl (lv_at hl 0 rfl) ?_
      refine lv_iload_n hx hb dX6_put_11 rfl (lv_at hl 1 rfl) ?_
      refine lv_iload_n hx hb dX6_put_12 rfl (lv_at hl 2 rfl) ?_
      obtain ⟨hg3, hf⟩ := gd_some hf
      refine va_iast (f := r_row) hx hb hK hP (cDs hB.2.2.1 _ _ _) hS q 0 (set_at _ hq) rfl hg3 dX6_put_13 (fun H locs hP _ hS => ?_)
      have hP : va_P g.1 vwCl ((cw g σ).set q (ga g q, cIA g nn (upd r_row a1.toNatClampNeg a2))) H := w_eq (set_set2 _ _ _ _) hP
      have hres : (upd r_row a1.toNatClampNeg a2) = res := (Option.some.inj hf)
      have hP : va_P g.1 vwCl (((cw g σ).set q (ga g q, cIA g nn res))) H := by rw [← hres]; exact hP
      exact W.vret hx hb hr (fun t ht hW => ⟨rfl, trivial, by rw [ht]; exact hP, hS.F ht⟩) hS.2.2 dX6_put_14
set_option maxHeartbeats 4000000 in
set_option maxRecDepth 100000 in
theorem ct_X6_finding (l : Launch) (n : Nat) (g : GC) (p0_paths : Nat → Int32) (p0_water : Int64) (p0_wall : Int64) (p0_kind : Nat → Int32) (p0_place : Nat → Int32) (p0_facing : Nat → Int32) (p0_age : Nat → Int32) (p0_seeds : Int32) (p0_season : Int32) (p0_z : Int32) (p0_spots : Nat → Int32) (p1_paths : Nat → Int32) (p1_water : Int64) (p1_wall : Int64) (p1_kind : Nat → Int32) (p1_place : Nat → Int32) (p1_facing : Nat → Int32) (p1_age : Nat → Int32) (p1_seeds : Int32) (p1_season : Int32) (p1_z : Int32) (p1_spots : Nat → Int32) (p2_paths : Nat → Int32) (p2_water : Int64) (p2_wall : Int64) (p2_kind : Nat → Int32) (p2_place : Nat → Int32) (p2_facing : Nat → Int32) (p2_age : Nat → Int32) (p2_seeds : Int32) (p2_season : Int32) (p2_z : Int32) (p2_spots : Nat → Int32) (t_bytes : Nat → Int32) (t_length : Int32) (t_sort : Int32) (t_start : Int32) (t_end : Int32) (t_value : Int32) (h_numbers : Nat → Nat → Int32) (h_bits : Nat → Int32) (h_size : Nat → Int32) (s_isKept : Int32) (s_told : Nat → Int32) (a1 : Int32) (res : Int32 × (Nat → Int32)) (hf : fX6_finding n a1 s_told = some res) : Met l yX6_finding wsX6_finding ({ frames := 1, cells := 0, slots := 0, locals := 22 }) (va_Pc [.ref (ga g 0), .int a1] (cI g (pk3 (p0_paths, p0_water, p0_wall, p0_kind, p0_place, p0_facing, p0_age, p0_seeds, p0_season, p0_z, p0_spots) (p1_paths, p1_water, p1_wall, p1_kind, p1_place, p1_facing, p1_age, p1_seeds, p1_season, p1_z, p1_spots) (p2_paths, p2_water, p2_wall, p2_kind, p2_place, p2_facing, p2_age, p2_seeds, p2_season, p2_z, p2_spots), s_isKept, (t_bytes, t_length, t_sort, t_start, t_end, t_value), (h_numbers, h_bits, h_size), s_told))) (qW (some (.int res.1)) True g.1 (cw g (pk3 (p0_paths, p0_water, p0_wall, p0_kind, p0_place, p0_facing, p0_age, p0_seeds, p0_season, p0_z, p0_spots) (p1_paths, p1_water, p1_wall, p1_kind, p1_place, p1_facing, p1_age, p1_seeds, p1_season, p1_z, p1_spots) (p2_paths, p2_water, p2_wall, p2_kind, p2_place, p2_facing, p2_age, p2_seeds, p2_season, p2_z, p2_spots), s_isKept, (t_bytes, t_length, t_sort, t_start, t_end, t_value), (h_numbers, h_bits, h_size), res.2)) (gA g)) 0 0 (gA g) := by
  refine Met.ofW (cc := cX6_finding) (maxL := 2) (ret := (some .int)) (by decide) rfl ?_
  intro p e s m args below meth c s₁ B hml hv
  obtain ⟨rfl, hI⟩ := hv
  have hx := B.exec
  have hb := B.bytes
  have hr := B.returns
  have hts := atoms_spec (ws := wsX6_finding) B.pre
  have hown : s.vm.findClass RX6 = some m.cls := findClass_of_methodNamed B.named
  have hlocks := B.notSynchronized
  have hP := hI.1
  have hB := hI.2
  have hK := hB.1
  have hNW := hB.2.1
  have hS : va_S (gA g) s.heap s.heap [] := va_S.rf
  have hw0 := hts (.fieldLink RX6 29 "SownPaths" "told" "[I") (by decide +kernel)
  have hw1 := hts (.constant RX6 310 (-1000001)) (by decide +kernel)
  have iwX6 : ∀ w ∈ wsX60, w ∈ wsX6_finding := fun w h => List.mem_cons_of_mem _ (List.mem_append_right _ h)
  have hl := lv_entry ([.ref (ga g 0), .int a1]) (n := 2) (Nat.le_of_ble_eq_true rfl)
  rw [lg_entry_eq]
  generalize (lg_sl ([.ref (ga g 0), .int a1]) ++ List.replicate (2 - (lg_sl ([.ref (ga g 0), .int a1])).length) Slot.unset).toArray = ls at hl ⊢
  have hl : lv_has ls 2 [(0, .ref (ga g 0)), (1, .int a1)] := hl
  unfold fX6_finding at hf
  refine lv_aload_n hx hb dX6_finding_0 rfl (lv_at hl 0 rfl) ?_
  refine va_get (D := g.1) (ci := 4) (v := .ref (ga g 5)) (C := RX6) (T := TX6) (N := 7) hx hb hts iwX6 hown hK hP 0 q_sp rfl 6 (by decide) hw0 (fun _ h9 => h9) rfl dX6_finding_1 ?_
  refine lv_iload_n hx hb dX6_finding_4 rfl (lv_at hl 1 rfl) ?_
  refine lv_aload_n hx hb dX6_finding_5 rfl (lv_at hl 0 rfl) ?_
  refine va_get (D := g.1) (ci := 4) (v := .ref (ga g 5)) (C := RX6) (T := TX6) (N := 7) hx hb hts iwX6 hown hK hP 0 q_sp rfl 6 (by decide) hw0 (fun _ h9 => h9) rfl dX6_finding_6 ?_
  refine lv_iload_n hx hb dX6_finding_9 rfl (lv_at hl 1 rfl) ?_
  obtain ⟨q1, hq1, hf⟩ := bd_some hf
  refine kr_S (st1 := [.int q1, .int a1, .ref (ga g 5)]) (va_runS (As := [.ref (ga g 5), .int a1]) (rest := [.int a1, .ref (ga g 5)]) ⟨hx, hb, hml, hown, hts⟩ (ct_X6_at l n g (pk3 (p0_paths, p0_water, p0_wall, p0_kind, p0_place, p0_facing, p0_age, p0_seeds, p0_season, p0_z, p0_spots) (p1_paths, p1_water, p1_wall, p1_kind, p1_place, p1_facing, p1_age, p1_seeds, p1_season, p1_z, p1_spots) (p2_paths, p2_water, p2_wall, p2_kind, p2_place, p2_facing, p2_age, p2_seeds, p2_season, p2_z, p2_spots), s_isKept, (t_bytes, t_length, t_sort, t_start, t_end, t_value), (h_numbers, h_bits, h_size), s_told) 5 7 s_told q_told a1 q1 hq1) (va_cwS 2 hts gX6_finding_X6_at rfl rfl rfl hn_X6_at ⟨Nat.le_of_ble_eq_true rfl, Nat.le_of_ble_eq_true rfl⟩) ⟨bl_C, pr_C rfl hB hP hS⟩ rfl rfl hl.1 rfl (lv_room (Nat.le_of_ble_eq_true rfl)) dX6_finding_10 ⟨Nat.le_refl _, Nat.le_refl _⟩) rfl (fun hn2 => ?_)
  refine lv_iconst (v := (1 : Int32)) hx hb dX6_finding_13 (by decide) ?_
  refine lv_iadd hx hb dX6_finding_14 ?_
  obtain ⟨q3, hq3, hf⟩ := bd_some hf
  refine kr_W (st1 := []) (va_runS (As := [.ref (ga g 5), .int a1, .int (q1 + (1 : Int32))]) (rest := []) ⟨hx, hb, hml, hown, hts⟩ (ct_X6_put l n g (pk3 (p0_paths, p0_water, p0_wall, p0_kind, p0_place, p0_facing, p0_age, p0_seeds, p0_season, p0_z, p0_spots) (p1_paths, p1_water, p1_wall, p1_kind, p1_place, p1_facing, p1_age, p1_seeds, p1_season, p1_z, p1_spots) (p2_paths, p2_water, p2_wall, p2_kind, p2_place, p2_facing, p2_age, p2_seeds, p2_season, p2_z, p2_spots), s_isKept, (t_bytes, t_length, t_sort, t_start, t_end, t_value), (h_numbers, h_bits, h_size), s_told) 5 7 s_told q_told a1 (q1 + (1 : Int32)) q3 hq3) (va_cwS 3 hts gX6_finding_X6_put rfl rfl rfl hn_X6_put ⟨Nat.le_of_ble_eq_true rfl, Nat.le_of_ble_eq_true rfl⟩) ⟨bl_C, pr_C rfl hB hP hS⟩ rfl rfl hl.1 rfl (lv_room (Nat.le_of_ble_eq_true rfl)) dX6_finding_15 ⟨Nat.le_refl _, Nat.le_refl _⟩) hS rfl (fun hn4 H locs hP hS => ?_)
  have hP : va_P g.1 vwCl (cw g (pk3 (p0_paths, p0_water, p0_wall, p0_kind, p0_place, p0_facing, p0_age, p0_seeds, p0_season, p0_z, p0_spots) (p1_paths, p1_water, p1_wall, p1_kind, p1_place, p1_facing, p1_age, p1_seeds, p1_season, p1_z, p1_spots) (p2_paths, p2_water, p2_wall, p2_kind, p2_place, p2_facing, p2_age, p2_seeds, p2_season, p2_z, p2_spots), s_isKept, (t_bytes, t_length, t_sort, t_start, t_end, t_value), (h_numbers, h_bits, h_size), q3)) H := w_eq (s_told q3) hP
  refine lv_ldcw (v := (-1000001 : Int32)) hx hb hown hw1 dX6_finding_18 ?_
  refine lv_iload_n hx hb dX6_finding_21 rfl (lv_at hl 1 rfl) ?_
  refine lv_isub hx hb dX6_finding_22 ?_
  have hres : (((-1000001 : Int32) - a1), q3) = res := (Option.some.inj hf)
  have hP : va_P g.1 vwCl (cw g (pk3 (p0_paths, p0_water, p0_wall, p0_kind, p0_place, p0_facing, p0_age, p0_seeds, p0_season, p0_z, p0_spots) (p1_paths, p1_water, p1_wall, p1_kind, p1_place, p1_facing, p1_age, p1_seeds, p1_season, p1_z, p1_spots) (p2_paths, p2_water, p2_wall, p2_kind, p2_place, p2_facing, p2_age, p2_seeds, p2_season, p2_z, p2_spots), s_isKept, (t_bytes, t_length, t_sort, t_start, t_end, t_value), (h_numbers, h_bits, h_size), res.2)) H := by rw [← hres]; exact hP
  exact W.iret (v := ((-1000001 : Int32) - a1)) hx hb hr (fun t ht hW => ⟨congrArg (fun z => Outcome.returned (some (Value.int z.1))) hres, trivial, by rw [ht]; exact hP, hS.F ht⟩) hS.2.2 dX6_finding_23
set_option maxHeartbeats 4000000 in
set_option maxRecDepth 100000 in
theorem ct_X6_bit (l : Launch) (n : Nat) (a0 : Int32) (res : Int64) (hf : fX6_bit n a0 = some res) : Met l yX6_bit wsX6_bit ({ frames := 0, cells := 0, slots := 0, locals := 0 }) (va_Pc [.int a0] NW) (qS (some (.long res)) True) 0 0 (fun _ => False) := by
  refine Met.ofW (cc := cX6_bit) (maxL := 1) (ret := (some .long)) (by decide) rfl ?_
  intro p e s m args below meth c s₁ B hml hv
  obtain ⟨rfl, hI⟩ := hv
  have hx := B.exec
  have hb := B.bytes
  have hr := B.returns
  have hts := atoms_spec (ws := wsX6_bit) B.pre
  have hown : s.vm.findClass RX6 = some m.cls := findClass_of_methodNamed B.named
  have hlocks := B.notSynchronized
  have hNW : NW s := hI
  have hl := lv_entry ([.int a0]) (n := 1) (Nat.le_of_ble_eq_true rfl)
  rw [lg_entry_eq]
  generalize (lg_sl ([.int a0]) ++ List.replicate (1 - (lg_sl ([.int a0])).length) Slot.unset).toArray = ls at hl ⊢
  have hl : lv_has ls 1 [(0, .int a0)] := hl
  unfold fX6_bit at hf
  refine lv_lconst (v := (1 : Int64)) hx hb dX6_bit_0 (by decide) ?_
  refine lv_iload_n hx hb dX6_bit_1 rfl (lv_at hl 0 rfl) ?_
  refine lv_lshl (v := ((1 : Int64) <<< (a0.toInt64 &&& 63))) hx hb dX6_bit_2 rfl ?_
  have hres : ((1 : Int64) <<< (a0.toInt64 &&& 63)) = res := (Option.some.inj hf)
  exact W.lret (v := ((1 : Int64) <<< (a0.toInt64 &&& 63))) hx hb hr (fun t ht hW => ⟨congrArg (fun z => Outcome.returned (some (Value.long z))) hres, trivial, ht⟩) t_nil dX6_bit_3
set_option maxHeartbeats 4000000 in
set_option maxRecDepth 100000 in
theorem ct_X2_pathOf (l : Launch) (n : Nat) (g : GC) (σ : CS) (k : Nat) (hk : k < 3) (f_paths : Nat → Int32) (f_water : Int64) (f_wall : Int64) (f_kind : Nat → Int32) (f_place : Nat → Int32) (f_facing : Nat → Int32) (f_age : Nat → Int32) (f_seeds : Int32) (f_season : Int32) (f_z : Int32) (f_spots : Nat → Int32) (he : σ.1 k = (f_paths, f_water, f_wall, f_kind, f_place, f_facing, f_age, f_seeds, f_season, f_z, f_spots)) (a1 : Int32) (res : Int32) (hf : fX2_pathOf n a1 f_paths = some res) : Met l yX2_pathOf wsX2_pathOf ({ frames := 1, cells := 0, slots := 0, locals := 21 }) (va_Pc [.ref (ga g (1 + k)), .int a1] (cI g σ)) (qS (some (.int res)) True) 0 0 (fun _ => False) := by
  refine Met.ofW (cc := cX2_pathOf) (maxL := 2) (ret := (some .int)) (by decide) rfl ?_
  intro p e s m args below meth c s₁ B hml hv
  obtain ⟨rfl, hI⟩ := hv
  have hx := B.exec
  have hb := B.bytes
  have hr := B.returns
  have hts := atoms_spec (ws := wsX2_pathOf) B.pre
  have hown : s.vm.findClass RX2 = some m.cls := findClass_of_methodNamed B.named
  have hlocks := B.notSynchronized
  have hP := hI.1
  have hB := hI.2
  have hK := hB.1
  have hNW := hB.2.1
  have hS : va_S (gA g) s.heap s.heap [] := va_S.rf
  have hw0 := hts (.fieldLink RX2 9 "SownPaths$Park" "paths" "[I") (by decide +kernel)
  have hw1 := hts (.initialized RX6) (by decide +kernel)
  have hw2 := hts (.static yX6_at) (by decide +kernel)
  have iwX2 : ∀ w ∈ wsX20, w ∈ wsX2_pathOf := fun w h => List.mem_cons_of_mem _ (List.mem_append_right _ h)
  have hl := lv_entry ([.ref (ga g (1 + k)), .int a1]) (n := 2) (Nat.le_of_ble_eq_true rfl)
  rw [lg_entry_eq]
  generalize (lg_sl ([.ref (ga g (1 + k)), .int a1]) ++ List.replicate (2 - (lg_sl ([.ref (ga g (1 + k)), .int a1])).length) Slot.unset).toArray = ls at hl ⊢
  have hl : lv_has ls 2 [(0, .ref (ga g (1 + k))), (1, .int a1)] := hl
  unfold fX2_pathOf at hf
  refine lv_aload_n hx hb dX2_pathOf_0 rfl (lv_at hl 0 rfl) ?_
  refine va_get (D := g.1) (ci := 0) (v := .ref (ga g (16 + k))) (C := RX2) (T := TX2) (N := 8) hx hb hts iwX2 hown hK hP (1 + k) (e_pk hk he (Q := (f_paths, f_water, f_wall, f_kind, f_place, f_facing, f_age, f_seeds, f_season, f_z, f_spots))) rfl 0 (by decide) hw0 (fun _ h9 => h9) rfl dX2_pathOf_1 ?_
  refine lv_iload_n hx hb dX2_pathOf_4 rfl (lv_at hl 1 rfl) ?_
  obtain ⟨q1, hq1, hf⟩ := bd_some hf
  refine kr_S (st1 := [.int q1]) (va_runSN (As := [.ref (ga g (16 + k)), .int a1]) (rest := []) ⟨hx, hb, hml, hown, hts⟩ (ct_X6_at l n g σ (16 + k) 36 f_paths (e_pa hk he (Q := (f_paths, f_water, f_wall, f_kind, f_place, f_facing, f_age, f_seeds, f_season, f_z, f_spots))) a1 q1 hq1) (⟨va_cnB 2 hts gX2_pathOf_X6_at_n95 rfl rfl rfl (ml_X2_95 hNW) hw1 hn_X6_at ⟨Nat.le_of_ble_eq_true rfl, Nat.le_of_ble_eq_true rfl⟩, hw2, trivial⟩) ⟨bl_C, pr_C rfl hB hP hS⟩ rfl rfl hl.1 rfl (lv_room (Nat.le_of_ble_eq_true rfl)) dX2_pathOf_5 ⟨Nat.le_refl _, Nat.le_refl _⟩) rfl (fun hn2 => ?_)
  have hres : q1 = res := (Option.some.inj hf)
  exact W.iret (v := q1) hx hb hr (fun t ht hW => ⟨congrArg (fun z => Outcome.returned (some (Value.int z))) hres, trivial, ht⟩) t_nil dX2_pathOf_8
set_option maxHeartbeats 4000000 in
set_option maxRecDepth 100000 in
theorem ct_X0_neighbours (l : Launch) (n : Nat) (a0 : Int64) (res : Int64) (hf : fX0_neighbours n a0 = some res) : Met l yX0_neighbours wsX0_neighbours ({ frames := 0, cells := 0, slots := 0, locals := 0 }) (va_Pc [.long a0] NW) (qS (some (.long res)) True) 0 0 (fun _ => False) := by
  refine Met.ofW (cc := cX0_neighbours) (maxL := 4) (ret := (some .long)) (by decide) rfl ?_
  intro p e s m args below meth c s₁ B hml hv
  obtain ⟨rfl, hI⟩ := hv
  have hx := B.exec
  have hb := B.bytes
  have hr := B.returns
  have hts := atoms_spec (ws := wsX0_neighbours) B.pre
  have hown : s.vm.findClass RX0 = some m.cls := findClass_of_methodNamed B.named
  have hlocks := B.notSynchronized
  have hNW : NW s := hI
  have hw0 := hts (.constantLong RX0 11 (-34905131041)) (by decide +kernel)
  have hw1 := hts (.constantLong RX0 13 (-1090785346)) (by decide +kernel)
  have hw2 := hts (.constantLong RX0 15 (68719476735)) (by decide +kernel)
  have hl := lv_entry ([.long a0]) (n := 4) (Nat.le_of_ble_eq_true rfl)
  rw [lg_entry_eq]
  generalize (lg_sl ([.long a0]) ++ List.replicate (4 - (lg_sl ([.long a0])).length) Slot.unset).toArray = ls at hl ⊢
  have hl : lv_has ls 4 [(0, .long a0)] := hl
  unfold fX0_neighbours at hf
  refine lv_lload_n hx hb dX0_neighbours_0 rfl (lv_at hl 0 rfl) ?_
  refine lv_ldc2 (v := (-34905131041 : Int64)) hx hb hown hw0 dX0_neighbours_1 ?_
  refine lv_land hx hb dX0_neighbours_4 ?_
  refine lv_iconst (v := (1 : Int32)) hx hb dX0_neighbours_5 (by decide) ?_
  refine lv_lshl (v := ((a0 &&& (-34905131041 : Int64)) <<< ((1 : Int32).toInt64 &&& 63))) hx hb dX0_neighbours_6 rfl ?_
  refine lv_lload_n hx hb dX0_neighbours_7 rfl (lv_at hl 0 rfl) ?_
  refine lv_ldc2 (v := (-1090785346 : Int64)) hx hb hown hw1 dX0_neighbours_8 ?_
  refine lv_land hx hb dX0_neighbours_11 ?_
  refine lv_iconst (v := (1 : Int32)) hx hb dX0_neighbours_12 (by decide) ?_
  refine lv_lushr (v := (((a0 &&& (-1090785346 : Int64)).toUInt64 >>> ((1 : Int32).toInt64.toUInt64 &&& Int64.toUInt64 63)).toInt64)) hx hb dX0_neighbours_13 rfl ?_
  refine lv_lor hx hb dX0_neighbours_14 ?_
  refine lv_lstore_n (lv' := [(2, .long (((a0 &&& (-34905131041 : Int64)) <<< ((1 : Int32).toInt64 &&& 63)) ||| (((a0 &&& (-1090785346 : Int64)).toUInt64 >>> ((1 : Int32).toInt64.toUInt64 &&& Int64.toUInt64 63)).toInt64))), (0, .long a0)]) hx hb dX0_neighbours_15 rfl hl (by decide) rfl (fun ls hl => ?_)
  refine lv_lload_n hx hb dX0_neighbours_16 rfl (lv_at hl 1 rfl) ?_
  refine lv_bipush (v := (6 : Int32)) hx hb dX0_neighbours_17 (by decide) ?_
  refine lv_lshl (v := (a0 <<< ((6 : Int32).toInt64 &&& 63))) hx hb dX0_neighbours_19 rfl ?_
  refine lv_lload_n hx hb dX0_neighbours_20 rfl (lv_at hl 1 rfl) ?_
  refine lv_bipush (v := (6 : Int32)) hx hb dX0_neighbours_21 (by decide) ?_
  refine lv_lushr (v := ((a0.toUInt64 >>> ((6 : Int32).toInt64.toUInt64 &&& Int64.toUInt64 63)).toInt64)) hx hb dX0_neighbours_23 rfl ?_
  refine lv_lor hx hb dX0_neighbours_24 ?_
  refine lv_lload_n hx hb dX0_neighbours_25 rfl (lv_at hl 0 rfl) ?_
  refine lv_lor hx hb dX0_neighbours_26 ?_
  refine lv_ldc2 (v := (68719476735 : Int64)) hx hb hown hw2 dX0_neighbours_27 ?_
  refine lv_land hx hb dX0_neighbours_30 ?_
  have hres : ((((a0 <<< ((6 : Int32).toInt64 &&& 63)) ||| ((a0.toUInt64 >>> ((6 : Int32).toInt64.toUInt64 &&& Int64.toUInt64 63)).toInt64)) ||| (((a0 &&& (-34905131041 : Int64)) <<< ((1 : Int32).toInt64 &&& 63)) ||| (((a0 &&& (-1090785346 : Int64)).toUInt64 >>> ((1 : Int32).toInt64.toUInt64 &&& Int64.toUInt64 63)).toInt64))) &&& (68719476735 : Int64)) = res := (Option.some.inj hf)
  exact W.lret (v := ((((a0 <<< ((6 : Int32).toInt64 &&& 63)) ||| ((a0.toUInt64 >>> ((6 : Int32).toInt64.toUInt64 &&& Int64.toUInt64 63)).toInt64)) ||| (((a0 &&& (-34905131041 : Int64)) <<< ((1 : Int32).toInt64 &&& 63)) ||| (((a0 &&& (-1090785346 : Int64)).toUInt64 >>> ((1 : Int32).toInt64.toUInt64 &&& Int64.toUInt64 63)).toInt64))) &&& (68719476735 : Int64))) hx hb hr (fun t ht hW => ⟨congrArg (fun z => Outcome.returned (some (Value.long z))) hres, trivial, ht⟩) t_nil dX0_neighbours_31
set_option maxHeartbeats 4000000 in
set_option maxRecDepth 100000 in
theorem ct_X2_pathSet (l : Launch) (n : Nat) (g : GC) (σ : CS) (k : Nat) (hk : k < 3) (f_paths : Nat → Int32) (f_water : Int64) (f_wall : Int64) (f_kind : Nat → Int32) (f_place : Nat → Int32) (f_facing : Nat → Int32) (f_age : Nat → Int32) (f_seeds : Int32) (f_season : Int32) (f_z : Int32) (f_spots : Nat → Int32) (he : σ.1 k = (f_paths, f_water, f_wall, f_kind, f_place, f_facing, f_age, f_seeds, f_season, f_z, f_spots)) (res : Int64) (hf : fX2_pathSet n f_paths = some res) : Met l yX2_pathSet wsX2_pathSet ({ frames := 1, cells := 0, slots := 0, locals := 20 }) (va_Pc [.ref (ga g (1 + k))] (cI g σ)) (qS (some (.long res)) True) 0 0 (fun _ => False) := by
  refine Met.ofW (cc := cX2_pathSet) (maxL := 4) (ret := (some .long)) (by decide) rfl ?_
  intro p e s m args below meth c s₁ B hml hv
  obtain ⟨rfl, hI⟩ := hv
  have hx := B.exec
  have hb := B.bytes
  have hr := B.returns
  have hts := atoms_spec (ws := wsX2_pathSet) B.pre
  have hown : s.vm.findClass RX2 = some m.cls := findClass_of_methodNamed B.named
  have hlocks := B.notSynchronized
  have hP := hI.1
  have hB := hI.2
  have hK := hB.1
  have hNW := hB.2.1
  have hS : va_S (gA g) s.heap s.heap [] := va_S.rf
  have hw0 := hts (.fieldLink RX2 9 "SownPaths$Park" "paths" "[I") (by decide +kernel)
  have hw1 := hts (.initialized RX6) (by decide +kernel)
  have hw2 := hts (.static yX6_bit) (by decide +kernel)
  have iwX2 : ∀ w ∈ wsX20, w ∈ wsX2_pathSet := fun w h => List.mem_cons_of_mem _ (List.mem_append_right _ h)
  have hl := lv_entry ([.ref (ga g (1 + k))]) (n := 4) (Nat.le_of_ble_eq_true rfl)
  rw [lg_entry_eq]
  generalize (lg_sl ([.ref (ga g (1 + k))]) ++ List.replicate (4 - (lg_sl ([.ref (ga g (1 + k))])).length) Slot.unset).toArray = ls at hl ⊢
  have hl : lv_has ls 4 [(0, .ref (ga g (1 + k)))] := hl
  unfold fX2_pathSet at hf
  refine lv_lconst (v := (0 : Int64)) hx hb dX2_pathSet_0 (by decide) ?_
  refine lv_lstore_n (lv' := [(1, .long (0 : Int64)), (0, .ref (ga g (1 + k)))]) hx hb dX2_pathSet_1 rfl hl (by decide) rfl (fun ls hl => ?_)
  refine lv_iconst (v := (0 : Int32)) hx hb dX2_pathSet_2 (by decide) ?_
  refine lv_istore_n (lv' := [(3, .int (0 : Int32)), (1, .long (0 : Int64)), (0, .ref (ga g (1 + k)))]) hx hb dX2_pathSet_3 rfl hl (by decide) rfl (fun ls hl => ?_)
  refine lp_run hf (fun s1 => ∀ (ls : Array Slot), lv_has ls 4 [(0, .ref (ga g (1 + k))), (1, .long s1.1), (3, .int s1.2)] → W p l e _ s m _ below meth c _ [] 0 0 _ (F0 m 4 ls [])) (fun v2 => ∀ (ls : Array Slot), lv_has ls 4 [(1, .long v2.1)] → W p l e _ s m _ below meth c _ [] 0 0 _ (F0 m 35 ls [])) ?_ ?_ _ (lv_sub hl [2, 1, 0] rfl)
  · intro v2 hf ls hl
    refine lv_lload_n hx hb dX2_pathSet_35 rfl (lv_at hl 0 rfl) ?_
    have hres : v2.1 = res := (Option.some.inj hf)
    exact W.lret (v := v2.1) hx hb hr (fun t ht hW => ⟨congrArg (fun z => Outcome.returned (some (Value.long z))) hres, trivial, ht⟩) t_nil dX2_pathSet_36
  · intro s1 r1 hf hback1 hexit1 ls hl
    refine lv_iload_n hx hb dX2_pathSet_4 rfl (lv_at hl 2 rfl) ?_
    refine lv_aload_n hx hb dX2_pathSet_5 rfl (lv_at hl 0 rfl) ?_
    refine va_get (D := g.1) (ci := 0) (v := .ref (ga g (16 + k))) (C := RX2) (T := TX2) (N := 8) hx hb hts iwX2 hown hK hP (1 + k) (e_pk hk he (Q := (f_paths, f_water, f_wall, f_kind, f_place, f_facing, f_age, f_seeds, f_season, f_z, f_spots))) rfl 0 (by decide) hw0 (fun _ h9 => h9) rfl dX2_pathSet_6 ?_
    refine va_alen (v := (36 : Int32)) hx hb hK hP (16 + k) 0 (e_pa hk he (Q := (f_paths, f_water, f_wall, f_kind, f_place, f_facing, f_age, f_seeds, f_season, f_z, f_spots))) rfl rfl dX2_pathSet_9 ?_
    refine lv_icmp_ge (tgt := 35) hx hb dX2_pathSet_10 (by decide) (fun hc3 => ?_) (fun hc3 => ?_)
    · have hf := (if_pos hc3).symm.trans hf
      exact hexit1 (s1.1, s1.2) (Option.some.inj hf).symm ls (lv_sub hl [1] rfl)
    · have hf := (if_neg hc3).symm.trans hf
      refine lv_aload_n hx hb dX2_pathSet_13 rfl (lv_at hl 0 rfl) ?_
      refine va_get (D := g.1) (ci := 0) (v := .ref (ga g (16 + k))) (C := RX2) (T := TX2) (N := 8) hx hb hts iwX2 hown hK hP (1 + k) (e_pk hk he (Q := (f_paths, f_water, f_wall, f_kind, f_place, f_facing, f_age, f_seeds, f_season, f_z, f_spots))) rfl 0 (by decide) hw0 (fun _ h9 => h9) rfl dX2_pathSet_14 ?_
      refine lv_iload_n hx hb dX2_pathSet_17 rfl (lv_at hl 2 rfl) ?_
      obtain ⟨hg4, hf⟩ := gd_some hf
      refine va_iald (f := f_paths) hx hb hK hP (16 + k) 0 (e_pa hk he (Q := (f_paths, f_water, f_wall, f_kind, f_place, f_facing, f_age, f_seeds, f_season, f_z, f_spots))) rfl hg4 dX2_pathSet_18 ?_
      refine lv_if_le (tgt := 29) hx hb dX2_pathSet_19 (by decide) (fun hc5 => ?_) (fun hc5 => ?_)
      · have hf := (if_pos hc5).symm.trans hf
        refine lv_iinc (v := (s1.2 + (1 : Int32))) (lv' := [(3, .int (s1.2 + (1 : Int32))), (0, .ref (ga g (1 + k))), (1, .long s1.1)]) hx hb dX2_pathSet_29 hl (k := 2) rfl (congrArg (fun y => s1.2 + y) (by decide : Int32.ofInt (1) = (1 : Int32))) (by decide) rfl (fun ls hl => ?_)
        refine lv_goto (tgt := 4) hx hb dX2_pathSet_32 (by decide) ?_
        exact hback1 _ (Option.some.inj hf).symm ls (lv_sub hl [1, 2, 0] rfl)
      · have hf := (if_neg hc5).symm.trans hf
        refine lv_lload_n hx hb dX2_pathSet_22 rfl (lv_at hl 1 rfl) ?_
        refine lv_iload_n hx hb dX2_pathSet_23 rfl (lv_at hl 2 rfl) ?_
        obtain ⟨q6, hq6, hf⟩ := bd_some hf
        refine kr_S (st1 := [.long q6, .long s1.1]) (va_runSN (As := [.int s1.2]) (rest := [.long s1.1]) ⟨hx, hb, hml, hown, hts⟩ (ct_X6_bit l n s1.2 q6 hq6) (⟨va_cnB 1 hts gX2_pathSet_X6_bit_n77 rfl rfl rfl (ml_X2_77 hNW) hw1 hn_X6_bit ⟨Nat.le_of_ble_eq_true rfl, Nat.le_of_ble_eq_true rfl⟩, hw2, trivial⟩) ⟨bl_N, pr_N rfl hNW⟩ rfl rfl hl.1 rfl (lv_room (Nat.le_of_ble_eq_true rfl)) dX2_pathSet_24 ⟨Nat.le_refl _, Nat.le_refl _⟩) rfl (fun hn7 => ?_)
        refine lv_lor hx hb dX2_pathSet_27 ?_
        refine lv_lstore_n (lv' := [(1, .long (s1.1 ||| q6)), (0, .ref (ga g (1 + k))), (3, .int s1.2)]) hx hb dX2_pathSet_28 rfl hl (by decide) rfl (fun ls hl => ?_)
        refine lv_iinc (v := (s1.2 + (1 : Int32))) (lv' := [(3, .int (s1.2 + (1 : Int32))), (1, .long (s1.1 ||| q6)), (0, .ref (ga g (1 + k)))]) hx hb dX2_pathSet_29 hl (k := 2) rfl (congrArg (fun y => s1.2 + y) (by decide : Int32.ofInt (1) = (1 : Int32))) (by decide) rfl (fun ls hl => ?_)
        refine lv_goto (tgt := 4) hx hb dX2_pathSet_32 (by decide) ?_
        exact hback1 _ (Option.some.inj hf).symm ls (lv_sub hl [2, 1, 0] rfl)
set_option maxHeartbeats 4000000 in
set_option maxRecDepth 100000 in
theorem ct_X2_sownAt (l : Launch) (n : Nat) (g : GC) (σ : CS) (k : Nat) (hk : k < 3) (f_paths : Nat → Int32) (f_water : Int64) (f_wall : Int64) (f_kind : Nat → Int32) (f_place : Nat → Int32) (f_facing : Nat → Int32) (f_age : Nat → Int32) (f_seeds : Int32) (f_season : Int32) (f_z : Int32) (f_spots : Nat → Int32) (he : σ.1 k = (f_paths, f_water, f_wall, f_kind, f_place, f_facing, f_age, f_seeds, f_season, f_z, f_spots)) (a1 : Int32) (res : Option Nat) (hf : fX2_sownAt n a1 = some res) : Met l yX2_sownAt wsX2_sownAt ({ frames := 0, cells := 0, slots := 0, locals := 0 }) (va_Pc [.ref (ga g (1 + k)), .int a1] (cI g σ)) (qS (some (va_rf (Option.map (fun j => ga g (25 + 8 * k + j)) res))) (∀ j', res = some j' → j' < 8)) 0 0 (fun _ => False) := by
  refine Met.ofW (cc := cX2_sownAt) (maxL := 2) (ret := (some (.object "SownPaths$Seed"))) (by decide) rfl ?_
  intro p e s m args below meth c s₁ B hml hv
  obtain ⟨rfl, hI⟩ := hv
  have hx := B.exec
  have hb := B.bytes
  have hr := B.returns
  have hts := atoms_spec (ws := wsX2_sownAt) B.pre
  have hown : s.vm.findClass RX2 = some m.cls := findClass_of_methodNamed B.named
  have hlocks := B.notSynchronized
  have hP := hI.1
  have hB := hI.2
  have hK := hB.1
  have hNW := hB.2.1
  have hS : va_S (gA g) s.heap s.heap [] := va_S.rf
  have hw0 := hts (.fieldLink RX2 24 "SownPaths$Park" "sown" "[LSownPaths$Seed;") (by decide +kernel)
  have iwX2 : ∀ w ∈ wsX20, w ∈ wsX2_sownAt := fun w h => List.mem_cons_of_mem _ (List.mem_append_right _ h)
  have hl := lv_entry ([.ref (ga g (1 + k)), .int a1]) (n := 2) (Nat.le_of_ble_eq_true rfl)
  rw [lg_entry_eq]
  generalize (lg_sl ([.ref (ga g (1 + k)), .int a1]) ++ List.replicate (2 - (lg_sl ([.ref (ga g (1 + k)), .int a1])).length) Slot.unset).toArray = ls at hl ⊢
  have hl : lv_has ls 2 [(0, .ref (ga g (1 + k))), (1, .int a1)] := hl
  unfold fX2_sownAt at hf
  refine lv_iload_n hx hb dX2_sownAt_0 rfl (lv_at hl 1 rfl) ?_
  refine lv_if_lt (tgt := 22) hx hb dX2_sownAt_1 (by decide) (fun hc1 => ?_) (fun hc1 => ?_)
  · have hf := (if_pos hc1).symm.trans hf
    refine lv_null hx hb dX2_sownAt_22 ?_
    have hres : none = res := (Option.some.inj hf)
    have hfa : ∀ j', none = some j' → j' < 8 := fun _ h => by cases h
    exact W.aret (v := .null) hx hb hr (Or.inl ⟨_, rfl⟩) (Or.inl rfl) (fun t ht hW => ⟨congrArg (fun z => Outcome.returned (some (va_rf (Option.map (fun j => ga g (25 + 8 * k + j)) z)))) hres, Eq.mp (congrArg (fun z => ∀ j', z = some j' → j' < 8) hres) hfa, ht⟩) t_nil dX2_sownAt_23
  · have hf := (if_neg hc1).symm.trans hf
    refine lv_iload_n hx hb dX2_sownAt_4 rfl (lv_at hl 1 rfl) ?_
    refine lv_aload_n hx hb dX2_sownAt_5 rfl (lv_at hl 0 rfl) ?_
    refine va_get (D := g.1) (ci := 0) (v := .ref (ga g (19 + k))) (C := RX2) (T := TX2) (N := 8) hx hb hts iwX2 hown hK hP (1 + k) (e_pk hk he (Q := (f_paths, f_water, f_wall, f_kind, f_place, f_facing, f_age, f_seeds, f_season, f_z, f_spots))) rfl 3 (by decide) hw0 (fun _ h9 => h9) rfl dX2_sownAt_6 ?_
    refine va_alen (v := (8 : Int32)) hx hb hK hP (19 + k) 1 (q_sw hk) rfl rfl dX2_sownAt_9 ?_
    refine lv_icmp_ge (tgt := 22) hx hb dX2_sownAt_10 (by decide) (fun hc2 => ?_) (fun hc2 => ?_)
    · have hf := (if_pos hc2).symm.trans hf
      refine lv_null hx hb dX2_sownAt_22 ?_
      have hres : none = res := (Option.some.inj hf)
      have hfa : ∀ j', none = some j' → j' < 8 := fun _ h => by cases h
      exact W.aret (v := .null) hx hb hr (Or.inl ⟨_, rfl⟩) (Or.inl rfl) (fun t ht hW => ⟨congrArg (fun z => Outcome.returned (some (va_rf (Option.map (fun j => ga g (25 + 8 * k + j)) z)))) hres, Eq.mp (congrArg (fun z => ∀ j', z = some j' → j' < 8) hres) hfa, ht⟩) t_nil dX2_sownAt_23
    · have hf := (if_neg hc2).symm.trans hf
      refine lv_aload_n hx hb dX2_sownAt_13 rfl (lv_at hl 0 rfl) ?_
      refine va_get (D := g.1) (ci := 0) (v := .ref (ga g (19 + k))) (C := RX2) (T := TX2) (N := 8) hx hb hts iwX2 hown hK hP (1 + k) (e_pk hk he (Q := (f_paths, f_water, f_wall, f_kind, f_place, f_facing, f_age, f_seeds, f_season, f_z, f_spots))) rfl 3 (by decide) hw0 (fun _ h9 => h9) rfl dX2_sownAt_14 ?_
      refine lv_iload_n hx hb dX2_sownAt_17 rfl (lv_at hl 1 rfl) ?_
      obtain ⟨hg3, hf⟩ := gd_some hf
      have hj4 := vi_lt hg3
      refine va_aldq (f := (fun j => some (ga g (25 + 8 * k + j)))) hx hb hK hP (19 + k) 1 (q_sw hk) rfl hg3 dX2_sownAt_18 ?_
      refine W.eq (g2 := F0 m 19 ls [.ref (ga g (25 + 8 * k + a1.toNatClampNeg))]) rfl ?_
      refine lv_goto (tgt := 23) hx hb dX2_sownAt_19 (by decide) ?_
      have hres : (some a1.toNatClampNeg) = res := (Option.some.inj hf)
      have hfa : ∀ j', (some a1.toNatClampNeg) = some j' → j' < 8 := fun _ h => Option.some.inj h ▸ hj4
      exact W.aret (v := .ref (ga g (25 + 8 * k + a1.toNatClampNeg))) hx hb hr (Or.inl ⟨_, rfl⟩) (Or.inr ⟨_, rfl⟩) (fun t ht hW => ⟨congrArg (fun z => Outcome.returned (some (va_rf (Option.map (fun j => ga g (25 + 8 * k + j)) z)))) hres, Eq.mp (congrArg (fun z => ∀ j', z = some j' → j' < 8) hres) hfa, ht⟩) t_nil dX2_sownAt_23
set_option maxHeartbeats 4000000 in
set_option maxRecDepth 100000 in
theorem ct_X2_seedAt (l : Launch) (n : Nat) (g : GC) (σ : CS) (k : Nat) (hk : k < 3) (f_paths : Nat → Int32) (f_water : Int64) (f_wall : Int64) (f_kind : Nat → Int32) (f_place : Nat → Int32) (f_facing : Nat → Int32) (f_age : Nat → Int32) (f_seeds : Int32) (f_season : Int32) (f_z : Int32) (f_spots : Nat → Int32) (he : σ.1 k = (f_paths, f_water, f_wall, f_kind, f_place, f_facing, f_age, f_seeds, f_season, f_z, f_spots)) (a1 : Int32) (res : Option Nat) (hf : fX2_seedAt n a1 f_seeds = some res) : Met l yX2_seedAt wsX2_seedAt ({ frames := 1, cells := 0, slots := 0, locals := 21 }) (va_Pc [.ref (ga g (1 + k)), .int a1] (cI g σ)) (qS (some (va_rf (Option.map (fun j => ga g (25 + 8 * k + j)) res))) (∀ j', res = some j' → j' < 8)) 0 0 (fun _ => False) := by
  refine Met.ofW (cc := cX2_seedAt) (maxL := 2) (ret := (some (.object "SownPaths$Seed"))) (by decide) rfl ?_
  intro p e s m args below meth c s₁ B hml hv
  obtain ⟨rfl, hI⟩ := hv
  have hx := B.exec
  have hb := B.bytes
  have hr := B.returns
  have hts := atoms_spec (ws := wsX2_seedAt) B.pre
  have hown : s.vm.findClass RX2 = some m.cls := findClass_of_methodNamed B.named
  have hlocks := B.notSynchronized
  have hP := hI.1
  have hB := hI.2
  have hK := hB.1
  have hNW := hB.2.1
  have hS : va_S (gA g) s.heap s.heap [] := va_S.rf
  have hw0 := hts (.fieldLink RX2 48 "SownPaths$Park" "seeds" "I") (by decide +kernel)
  have iwX2 : ∀ w ∈ wsX20, w ∈ wsX2_seedAt := fun w h => List.mem_cons_of_mem _ (List.mem_append_right _ h)
  have hl := lv_entry ([.ref (ga g (1 + k)), .int a1]) (n := 2) (Nat.le_of_ble_eq_true rfl)
  rw [lg_entry_eq]
  generalize (lg_sl ([.ref (ga g (1 + k)), .int a1]) ++ List.replicate (2 - (lg_sl ([.ref (ga g (1 + k)), .int a1])).length) Slot.unset).toArray = ls at hl ⊢
  have hl : lv_has ls 2 [(0, .ref (ga g (1 + k))), (1, .int a1)] := hl
  unfold fX2_seedAt at hf
  refine lv_iload_n hx hb dX2_seedAt_0 rfl (lv_at hl 1 rfl) ?_
  refine lv_aload_n hx hb dX2_seedAt_1 rfl (lv_at hl 0 rfl) ?_
  refine va_get (D := g.1) (ci := 0) (v := .int f_seeds) (C := RX2) (T := TX2) (N := 8) hx hb hts iwX2 hown hK hP (1 + k) (e_pk hk he (Q := (f_paths, f_water, f_wall, f_kind, f_place, f_facing, f_age, f_seeds, f_season, f_z, f_spots))) rfl 4 (by decide) hw0 (fun _ h9 => h9) rfl dX2_seedAt_2 ?_
  refine lv_icmp_ge (tgt := 16) hx hb dX2_seedAt_5 (by decide) (fun hc1 => ?_) (fun hc1 => ?_)
  · have hf := (if_pos hc1).symm.trans hf
    refine lv_null hx hb dX2_seedAt_16 ?_
    have hres : none = res := (Option.some.inj hf)
    have hfa : ∀ j', none = some j' → j' < 8 := fun _ h => by cases h
    exact W.aret (v := .null) hx hb hr (Or.inl ⟨_, rfl⟩) (Or.inl rfl) (fun t ht hW => ⟨congrArg (fun z => Outcome.returned (some (va_rf (Option.map (fun j => ga g (25 + 8 * k + j)) z)))) hres, Eq.mp (congrArg (fun z => ∀ j', z = some j' → j' < 8) hres) hfa, ht⟩) t_nil dX2_seedAt_17
  · have hf := (if_neg hc1).symm.trans hf
    refine lv_aload_n hx hb dX2_seedAt_8 rfl (lv_at hl 0 rfl) ?_
    refine lv_iload_n hx hb dX2_seedAt_9 rfl (lv_at hl 1 rfl) ?_
    obtain ⟨q2, hq2, hf⟩ := bd_some hf
    refine kr_S (st1 := [va_rf (Option.map (fun j => ga g (25 + 8 * k + j)) q2)]) (va_runV (As := [.int a1]) (rest := []) ⟨hx, hb, hml, hown, hts⟩ (ct_X2_sownAt l n g σ k hk f_paths f_water f_wall f_kind f_place f_facing f_age f_seeds f_season f_z f_spots he a1 q2 hq2) (cwV 1 hts gX2_seedAt_X2_sownAt rfl rfl rfl hd_X2_sownAt ⟨Nat.le_of_ble_eq_true rfl, Nat.le_of_ble_eq_true rfl⟩) ⟨bl_C, va_recv hK hP (ci := 0) (q0 := (1 + k)) rfl (e_pk hk he (Q := (f_paths, f_water, f_wall, f_kind, f_place, f_facing, f_age, f_seeds, f_season, f_z, f_spots))), pr_C rfl hB hP hS⟩ rfl rfl hl.1 rfl (lv_room (Nat.le_of_ble_eq_true rfl)) dX2_seedAt_10 ⟨Nat.le_refl _, Nat.le_refl _⟩) rfl (fun hn3 => ?_)
    rcases q2 with _ | j4
    · have hf := eo_n hf
      refine W.eq (g2 := F0 m 13 ls [.null]) rfl ?_
      refine lv_goto (tgt := 17) hx hb dX2_seedAt_13 (by decide) ?_
      have hres : none = res := (Option.some.inj hf)
      have hfa : ∀ j', none = some j' → j' < 8 := fun _ h => by cases h
      exact W.aret (v := .null) hx hb hr (Or.inl ⟨_, rfl⟩) (Or.inl rfl) (fun t ht hW => ⟨congrArg (fun z => Outcome.returned (some (va_rf (Option.map (fun j => ga g (25 + 8 * k + j)) z)))) hres, Eq.mp (congrArg (fun z => ∀ j', z = some j' → j' < 8) hres) hfa, ht⟩) t_nil dX2_seedAt_17
    · have hf := eo_s hf
      have hj5 := hn3 _ rfl
      refine W.eq (g2 := F0 m 13 ls [.ref (ga g (25 + 8 * k + j4))]) rfl ?_
      refine lv_goto (tgt := 17) hx hb dX2_seedAt_13 (by decide) ?_
      have hres : (some j4) = res := (Option.some.inj hf)
      have hfa : ∀ j', (some j4) = some j' → j' < 8 := fun _ h => Option.some.inj h ▸ hj5
      exact W.aret (v := .ref (ga g (25 + 8 * k + j4))) hx hb hr (Or.inl ⟨_, rfl⟩) (Or.inr ⟨_, rfl⟩) (fun t ht hW => ⟨congrArg (fun z => Outcome.returned (some (va_rf (Option.map (fun j => ga g (25 + 8 * k + j)) z)))) hres, Eq.mp (congrArg (fun z => ∀ j', z = some j' → j' < 8) hres) hfa, ht⟩) t_nil dX2_seedAt_17
set_option maxHeartbeats 4000000 in
set_option maxRecDepth 100000 in
theorem ct_X2_isFull (l : Launch) (n : Nat) (g : GC) (σ : CS) (k : Nat) (hk : k < 3) (f_paths : Nat → Int32) (f_water : Int64) (f_wall : Int64) (f_kind : Nat → Int32) (f_place : Nat → Int32) (f_facing : Nat → Int32) (f_age : Nat → Int32) (f_seeds : Int32) (f_season : Int32) (f_z : Int32) (f_spots : Nat → Int32) (he : σ.1 k = (f_paths, f_water, f_wall, f_kind, f_place, f_facing, f_age, f_seeds, f_season, f_z, f_spots)) (res : Int32) (hf : fX2_isFull n f_seeds = some res) : Met l yX2_isFull wsX2_isFull ({ frames := 0, cells := 0, slots := 0, locals := 0 }) (va_Pc [.ref (ga g (1 + k))] (cI g σ)) (qS (some (.int res)) (narrow .boolean (.int res) = .int res)) 0 0 (fun _ => False) := by
  refine Met.ofW (cc := cX2_isFull) (maxL := 1) (ret := (some .boolean)) (by decide) rfl ?_
  intro p e s m args below meth c s₁ B hml hv
  obtain ⟨rfl, hI⟩ := hv
  have hx := B.exec
  have hb := B.bytes
  have hr := B.returns
  have hts := atoms_spec (ws := wsX2_isFull) B.pre
  have hown : s.vm.findClass RX2 = some m.cls := findClass_of_methodNamed B.named
  have hlocks := B.notSynchronized
  have hP := hI.1
  have hB := hI.2
  have hK := hB.1
  have hNW := hB.2.1
  have hS : va_S (gA g) s.heap s.heap [] := va_S.rf
  have hw0 := hts (.fieldLink RX2 48 "SownPaths$Park" "seeds" "I") (by decide +kernel)
  have iwX2 : ∀ w ∈ wsX20, w ∈ wsX2_isFull := fun w h => List.mem_cons_of_mem _ (List.mem_append_right _ h)
  have hl := lv_entry ([.ref (ga g (1 + k))]) (n := 1) (Nat.le_of_ble_eq_true rfl)
  rw [lg_entry_eq]
  generalize (lg_sl ([.ref (ga g (1 + k))]) ++ List.replicate (1 - (lg_sl ([.ref (ga g (1 + k))])).length) Slot.unset).toArray = ls at hl ⊢
  have hl : lv_has ls 1 [(0, .ref (ga g (1 + k)))] := hl
  unfold fX2_isFull at hf
  refine lv_aload_n hx hb dX2_isFull_0 rfl (lv_at hl 0 rfl) ?_
  refine va_get (D := g.1) (ci := 0) (v := .int f_seeds) (C := RX2) (T := TX2) (N := 8) hx hb hts iwX2 hown hK hP (1 + k) (e_pk hk he (Q := (f_paths, f_water, f_wall, f_kind, f_place, f_facing, f_age, f_seeds, f_season, f_z, f_spots))) rfl 4 (by decide) hw0 (fun _ h9 => h9) rfl dX2_isFull_1 ?_
  refine lv_bipush (v := (8 : Int32)) hx hb dX2_isFull_4 (by decide) ?_
  refine lv_icmp_lt (tgt := 13) hx hb dX2_isFull_6 (by decide) (fun hc1 => ?_) (fun hc1 => ?_)
  · have hf := (if_pos hc1).symm.trans hf
    refine lv_iconst (v := (0 : Int32)) hx hb dX2_isFull_13 (by decide) ?_
    have hres : (0 : Int32) = res := (Option.some.inj hf)
    have hnr : narrow .boolean (.int (0 : Int32)) = .int (0 : Int32) := rfl
    exact W.zret (v := (0 : Int32)) hx hb hr hnr (fun t ht hW => ⟨congrArg (fun z => Outcome.returned (some (Value.int z))) hres, Eq.mp (congrArg (fun z => narrow .boolean (.int z) = .int z) hres) hnr, ht⟩) t_nil dX2_isFull_14
  · have hf := (if_neg hc1).symm.trans hf
    refine lv_iconst (v := (1 : Int32)) hx hb dX2_isFull_9 (by decide) ?_
    refine lv_goto (tgt := 14) hx hb dX2_isFull_10 (by decide) ?_
    have hres : (1 : Int32) = res := (Option.some.inj hf)
    have hnr : narrow .boolean (.int (1 : Int32)) = .int (1 : Int32) := rfl
    exact W.zret (v := (1 : Int32)) hx hb hr hnr (fun t ht hW => ⟨congrArg (fun z => Outcome.returned (some (Value.int z))) hres, Eq.mp (congrArg (fun z => narrow .boolean (.int z) = .int z) hres) hnr, ht⟩) t_nil dX2_isFull_14
set_option maxHeartbeats 4000000 in
set_option maxRecDepth 100000 in
theorem ct_X3_lives (l : Launch) (n : Nat) (g : GC) (σ : CS) (k : Nat) (hk : k < 3) (f_paths : Nat → Int32) (f_water : Int64) (f_wall : Int64) (f_kind : Nat → Int32) (f_place : Nat → Int32) (f_facing : Nat → Int32) (f_age : Nat → Int32) (f_seeds : Int32) (f_season : Int32) (f_z : Int32) (f_spots : Nat → Int32) (he : σ.1 k = (f_paths, f_water, f_wall, f_kind, f_place, f_facing, f_age, f_seeds, f_season, f_z, f_spots)) (j : Nat) (hj : j < 8) (res : Int32) (hf : fX3_lives n j f_kind = some res) : Met l yX3_lives wsX3_lives ({ frames := 0, cells := 0, slots := 0, locals := 0 }) (va_Pc [.ref (ga g (25 + 8 * k + j))] (cI g σ)) (qS (some (.int res)) True) 0 0 (fun _ => False) := by
  refine Met.ofW (cc := cX3_lives) (maxL := 1) (ret := (some .int)) (by decide) rfl ?_
  intro p e s m args below meth c s₁ B hml hv
  obtain ⟨rfl, hI⟩ := hv
  have hx := B.exec
  have hb := B.bytes
  have hr := B.returns
  have hts := atoms_spec (ws := wsX3_lives) B.pre
  have hown : s.vm.findClass RX3 = some m.cls := findClass_of_methodNamed B.named
  have hlocks := B.notSynchronized
  have hP := hI.1
  have hB := hI.2
  have hK := hB.1
  have hNW := hB.2.1
  have hS : va_S (gA g) s.heap s.heap [] := va_S.rf
  have hw0 := hts (.fieldLink RX3 9 "SownPaths$Seed" "kind" "I") (by decide +kernel)
  have iwX3 : ∀ w ∈ wsX30, w ∈ wsX3_lives := fun w h => List.mem_cons_of_mem _ (List.mem_append_right _ h)
  have hl := lv_entry ([.ref (ga g (25 + 8 * k + j))]) (n := 1) (Nat.le_of_ble_eq_true rfl)
  rw [lg_entry_eq]
  generalize (lg_sl ([.ref (ga g (25 + 8 * k + j))]) ++ List.replicate (1 - (lg_sl ([.ref (ga g (25 + 8 * k + j))])).length) Slot.unset).toArray = ls at hl ⊢
  have hl : lv_has ls 1 [(0, .ref (ga g (25 + 8 * k + j)))] := hl
  unfold fX3_lives at hf
  refine lv_aload_n hx hb dX3_lives_0 rfl (lv_at hl 0 rfl) ?_
  refine va_get (D := g.1) (ci := 1) (v := .int (f_kind j)) (C := RX3) (T := TX3) (N := 4) hx hb hts iwX3 hown hK hP (25 + 8 * k + j) (e_sd hk hj he (Q := (f_paths, f_water, f_wall, f_kind, f_place, f_facing, f_age, f_seeds, f_season, f_z, f_spots))) rfl 0 (by decide) hw0 (fun _ h9 => h9) rfl dX3_lives_1 ?_
  by_cases hc1 : (f_kind j) = (1 : Int32)
  · have hf := (if_pos hc1).symm.trans hf
    refine lv_tableIn (tgt := 44) hx hb dX3_lives_4 (by rw [hc1]; decide) (by rw [hc1]; decide) (by rw [hc1]; rfl) (by decide) ?_
    refine lv_iconst (v := (4 : Int32)) hx hb dX3_lives_44 (by decide) ?_
    have hres : (4 : Int32) = res := (Option.some.inj hf)
    exact W.iret (v := (4 : Int32)) hx hb hr (fun t ht hW => ⟨congrArg (fun z => Outcome.returned (some (Value.int z))) hres, trivial, ht⟩) t_nil dX3_lives_45
  · have hf := (if_neg hc1).symm.trans hf
    by_cases hc2 : (f_kind j) = (2 : Int32)
    · have hf := (if_pos hc2).symm.trans hf
      refine lv_tableIn (tgt := 49) hx hb dX3_lives_4 (by rw [hc2]; decide) (by rw [hc2]; decide) (by rw [hc2]; rfl) (by decide) ?_
      refine lv_bipush (v := (30 : Int32)) hx hb dX3_lives_49 (by decide) ?_
      have hres : (30 : Int32) = res := (Option.some.inj hf)
      exact W.iret (v := (30 : Int32)) hx hb hr (fun t ht hW => ⟨congrArg (fun z => Outcome.returned (some (Value.int z))) hres, trivial, ht⟩) t_nil dX3_lives_51
    · have hf := (if_neg hc2).symm.trans hf
      by_cases hc3 : (f_kind j) = (3 : Int32)
      · have hf := (if_pos hc3).symm.trans hf
        refine lv_tableIn (tgt := 52) hx hb dX3_lives_4 (by rw [hc3]; decide) (by rw [hc3]; decide) (by rw [hc3]; rfl) (by decide) ?_
        refine lv_bipush (v := (15 : Int32)) hx hb dX3_lives_52 (by decide) ?_
        have hres : (15 : Int32) = res := (Option.some.inj hf)
        exact W.iret (v := (15 : Int32)) hx hb hr (fun t ht hW => ⟨congrArg (fun z => Outcome.returned (some (Value.int z))) hres, trivial, ht⟩) t_nil dX3_lives_54
      · have hf := (if_neg hc3).symm.trans hf
        by_cases hc4 : (f_kind j) = (4 : Int32)
        · have hf := (if_pos hc4).symm.trans hf
          refine lv_tableIn (tgt := 55) hx hb dX3_lives_4 (by rw [hc4]; decide) (by rw [hc4]; decide) (by rw [hc4]; rfl) (by decide) ?_
          refine lv_bipush (v := (16 : Int32)) hx hb dX3_lives_55 (by decide) ?_
          have hres : (16 : Int32) = res := (Option.some.inj hf)
          exact W.iret (v := (16 : Int32)) hx hb hr (fun t ht hW => ⟨congrArg (fun z => Outcome.returned (some (Value.int z))) hres, trivial, ht⟩) t_nil dX3_lives_57
        · have hf := (if_neg hc4).symm.trans hf
          by_cases hc5 : (f_kind j) = (5 : Int32)
          · have hf := (if_pos hc5).symm.trans hf
            refine lv_tableIn (tgt := 58) hx hb dX3_lives_4 (by rw [hc5]; decide) (by rw [hc5]; decide) (by rw [hc5]; rfl) (by decide) ?_
            refine lv_bipush (v := (20 : Int32)) hx hb dX3_lives_58 (by decide) ?_
            have hres : (20 : Int32) = res := (Option.some.inj hf)
            exact W.iret (v := (20 : Int32)) hx hb hr (fun t ht hW => ⟨congrArg (fun z => Outcome.returned (some (Value.int z))) hres, trivial, ht⟩) t_nil dX3_lives_60
          · have hf := (if_neg hc5).symm.trans hf
            by_cases hc6 : (f_kind j) = (6 : Int32)
            · have hf := (if_pos hc6).symm.trans hf
              refine lv_tableIn (tgt := 46) hx hb dX3_lives_4 (by rw [hc6]; decide) (by rw [hc6]; decide) (by rw [hc6]; rfl) (by decide) ?_
              refine lv_bipush (v := (8 : Int32)) hx hb dX3_lives_46 (by decide) ?_
              have hres : (8 : Int32) = res := (Option.some.inj hf)
              exact W.iret (v := (8 : Int32)) hx hb hr (fun t ht hW => ⟨congrArg (fun z => Outcome.returned (some (Value.int z))) hres, trivial, ht⟩) t_nil dX3_lives_48
            · have hf := (if_neg hc6).symm.trans hf
              refine lv_tableOut (tgt := 58) hx hb dX3_lives_4 (by have := lv_neT (a := 1) hc1 rfl; have := lv_neT (a := 2) hc2 rfl; have := lv_neT (a := 3) hc3 rfl; have := lv_neT (a := 4) hc4 rfl; have := lv_neT (a := 5) hc5 rfl; have := lv_neT (a := 6) hc6 rfl; omega) (by decide) ?_
              refine lv_bipush (v := (20 : Int32)) hx hb dX3_lives_58 (by decide) ?_
              have hres : (20 : Int32) = res := (Option.some.inj hf)
              exact W.iret (v := (20 : Int32)) hx hb hr (fun t ht hW => ⟨congrArg (fun z => Outcome.returned (some (Value.int z))) hres, trivial, ht⟩) t_nil dX3_lives_60
set_option maxHeartbeats 4000000 in
set_option maxRecDepth 100000 in
theorem ct_X3_isAlive (l : Launch) (n : Nat) (g : GC) (σ : CS) (k : Nat) (hk : k < 3) (f_paths : Nat → Int32) (f_water : Int64) (f_wall : Int64) (f_kind : Nat → Int32) (f_place : Nat → Int32) (f_facing : Nat → Int32) (f_age : Nat → Int32) (f_seeds : Int32) (f_season : Int32) (f_z : Int32) (f_spots : Nat → Int32) (he : σ.1 k = (f_paths, f_water, f_wall, f_kind, f_place, f_facing, f_age, f_seeds, f_season, f_z, f_spots)) (j : Nat) (hj : j < 8) (res : Int32) (hf : fX3_isAlive n j f_kind f_age = some res) : Met l yX3_isAlive wsX3_isAlive ({ frames := 1, cells := 0, slots := 0, locals := 20 }) (va_Pc [.ref (ga g (25 + 8 * k + j))] (cI g σ)) (qS (some (.int res)) (narrow .boolean (.int res) = .int res)) 0 0 (fun _ => False) := by
  refine Met.ofW (cc := cX3_isAlive) (maxL := 1) (ret := (some .boolean)) (by decide) rfl ?_
  intro p e s m args below meth c s₁ B hml hv
  obtain ⟨rfl, hI⟩ := hv
  have hx := B.exec
  have hb := B.bytes
  have hr := B.returns
  have hts := atoms_spec (ws := wsX3_isAlive) B.pre
  have hown : s.vm.findClass RX3 = some m.cls := findClass_of_methodNamed B.named
  have hlocks := B.notSynchronized
  have hP := hI.1
  have hB := hI.2
  have hK := hB.1
  have hNW := hB.2.1
  have hS : va_S (gA g) s.heap s.heap [] := va_S.rf
  have hw0 := hts (.fieldLink RX3 21 "SownPaths$Seed" "age" "I") (by decide +kernel)
  have iwX3 : ∀ w ∈ wsX30, w ∈ wsX3_isAlive := fun w h => List.mem_cons_of_mem _ (List.mem_append_right _ h)
  have hl := lv_entry ([.ref (ga g (25 + 8 * k + j))]) (n := 1) (Nat.le_of_ble_eq_true rfl)
  rw [lg_entry_eq]
  generalize (lg_sl ([.ref (ga g (25 + 8 * k + j))]) ++ List.replicate (1 - (lg_sl ([.ref (ga g (25 + 8 * k + j))])).length) Slot.unset).toArray = ls at hl ⊢
  have hl : lv_has ls 1 [(0, .ref (ga g (25 + 8 * k + j)))] := hl
  unfold fX3_isAlive at hf
  refine lv_aload_n hx hb dX3_isAlive_0 rfl (lv_at hl 0 rfl) ?_
  refine va_get (D := g.1) (ci := 1) (v := .int (f_age j)) (C := RX3) (T := TX3) (N := 4) hx hb hts iwX3 hown hK hP (25 + 8 * k + j) (e_sd hk hj he (Q := (f_paths, f_water, f_wall, f_kind, f_place, f_facing, f_age, f_seeds, f_season, f_z, f_spots))) rfl 3 (by decide) hw0 (fun _ h9 => h9) rfl dX3_isAlive_1 ?_
  refine lv_aload_n hx hb dX3_isAlive_4 rfl (lv_at hl 0 rfl) ?_
  obtain ⟨q1, hq1, hf⟩ := bd_some hf
  refine kr_S (st1 := [.int q1, .int (f_age j)]) (va_runV (As := []) (rest := [.int (f_age j)]) ⟨hx, hb, hml, hown, hts⟩ (ct_X3_lives l n g σ k hk f_paths f_water f_wall f_kind f_place f_facing f_age f_seeds f_season f_z f_spots he j hj q1 hq1) (cwV 0 hts gX3_isAlive_X3_lives rfl rfl rfl hd_X3_lives ⟨Nat.le_of_ble_eq_true rfl, Nat.le_of_ble_eq_true rfl⟩) ⟨bl_C, va_recv hK hP (ci := 1) (q0 := (25 + 8 * k + j)) rfl (e_sd hk hj he (Q := (f_paths, f_water, f_wall, f_kind, f_place, f_facing, f_age, f_seeds, f_season, f_z, f_spots))), pr_C rfl hB hP hS⟩ rfl rfl hl.1 rfl (lv_room (Nat.le_of_ble_eq_true rfl)) dX3_isAlive_5 ⟨Nat.le_refl _, Nat.le_refl _⟩) rfl (fun hn2 => ?_)
  refine lv_icmp_ge (tgt := 15) hx hb dX3_isAlive_8 (by decide) (fun hc3 => ?_) (fun hc3 => ?_)
  · have hf := (if_pos hc3).symm.trans hf
    refine lv_iconst (v := (0 : Int32)) hx hb dX3_isAlive_15 (by decide) ?_
    have hres : (0 : Int32) = res := (Option.some.inj hf)
    have hnr : narrow .boolean (.int (0 : Int32)) = .int (0 : Int32) := rfl
    exact W.zret (v := (0 : Int32)) hx hb hr hnr (fun t ht hW => ⟨congrArg (fun z => Outcome.returned (some (Value.int z))) hres, Eq.mp (congrArg (fun z => narrow .boolean (.int z) = .int z) hres) hnr, ht⟩) t_nil dX3_isAlive_16
  · have hf := (if_neg hc3).symm.trans hf
    refine lv_iconst (v := (1 : Int32)) hx hb dX3_isAlive_11 (by decide) ?_
    refine lv_goto (tgt := 16) hx hb dX3_isAlive_12 (by decide) ?_
    have hres : (1 : Int32) = res := (Option.some.inj hf)
    have hnr : narrow .boolean (.int (1 : Int32)) = .int (1 : Int32) := rfl
    exact W.zret (v := (1 : Int32)) hx hb hr hnr (fun t ht hW => ⟨congrArg (fun z => Outcome.returned (some (Value.int z))) hres, Eq.mp (congrArg (fun z => narrow .boolean (.int z) = .int z) hres) hnr, ht⟩) t_nil dX3_isAlive_16
set_option maxHeartbeats 4000000 in
set_option maxRecDepth 100000 in
theorem ct_X3_replace (l : Launch) (n : Nat) (g : GC) (S : PK → CS) (k : Nat) (hk : k < 3) (hL : zP k S) (f_paths : Nat → Int32) (f_water : Int64) (f_wall : Int64) (f_kind : Nat → Int32) (f_place : Nat → Int32) (f_facing : Nat → Int32) (f_age : Nat → Int32) (f_seeds : Int32) (f_season : Int32) (f_z : Int32) (f_spots : Nat → Int32) (j : Nat) (hj : j < 8) (a1 : Int32) (a2 : Int32) (res : Int32 × (Nat → Int32) × (Nat → Int32) × (Nat → Int32) × (Nat → Int32)) (hf : fX3_replace n j a1 a2 f_kind f_place f_facing f_age = some res) : Met l yX3_replace wsX3_replace ({ frames := 0, cells := 0, slots := 0, locals := 0 }) (va_Pc [.ref (ga g (25 + 8 * k + j)), .int a1, .int a2] (cI g (S (f_paths, f_water, f_wall, f_kind, f_place, f_facing, f_age, f_seeds, f_season, f_z, f_spots)))) (qW (some (.int res.1)) True g.1 (cw g (S (f_paths, f_water, f_wall, res.2.1, res.2.2.1, res.2.2.2.1, res.2.2.2.2, f_seeds, f_season, f_z, f_spots))) (gA g)) 0 0 (gA g) := by
  refine Met.ofW (cc := cX3_replace) (maxL := 4) (ret := (some .int)) (by decide) rfl ?_
  intro p e s m args below meth c s₁ B hml hv
  obtain ⟨rfl, hI⟩ := hv
  have hx := B.exec
  have hb := B.bytes
  have hr := B.returns
  have hts := atoms_spec (ws := wsX3_replace) B.pre
  have hown : s.vm.findClass RX3 = some m.cls := findClass_of_methodNamed B.named
  have hlocks := B.notSynchronized
  have hP := hI.1
  have hB := hI.2
  have hK := hB.1
  have hNW := hB.2.1
  have hS : va_S (gA g) s.heap s.heap [] := va_S.rf
  have hw0 := hts (.fieldLink RX3 9 "SownPaths$Seed" "kind" "I") (by decide +kernel)
  have hw1 := hts (.fieldLink RX3 15 "SownPaths$Seed" "place" "I") (by decide +kernel)
  have hw2 := hts (.fieldLink RX3 18 "SownPaths$Seed" "facing" "I") (by decide +kernel)
  have hw3 := hts (.fieldLink RX3 21 "SownPaths$Seed" "age" "I") (by decide +kernel)
  have iwX3 : ∀ w ∈ wsX30, w ∈ wsX3_replace := fun w h => List.mem_cons_of_mem _ (List.mem_append_right _ h)
  have hl := lv_entry ([.ref (ga g (25 + 8 * k + j)), .int a1, .int a2]) (n := 4) (Nat.le_of_ble_eq_true rfl)
  rw [lg_entry_eq]
  generalize (lg_sl ([.ref (ga g (25 + 8 * k + j)), .int a1, .int a2]) ++ List.replicate (4 - (lg_sl ([.ref (ga g (25 + 8 * k + j)), .int a1, .int a2])).length) Slot.unset).toArray = ls at hl ⊢
  have hl : lv_has ls 4 [(0, .ref (ga g (25 + 8 * k + j))), (1, .int a1), (2, .int a2)] := hl
  unfold fX3_replace at hf
  refine lv_iload_n hx hb dX3_replace_0 rfl (lv_at hl 1 rfl) ?_
  by_cases hc1 : a1 = (0 : Int32)
  · have hf := (if_pos hc1).symm.trans hf
    refine lv_tableIn (tgt := 28) hx hb dX3_replace_1 (by rw [hc1]; decide) (by rw [hc1]; decide) (by rw [hc1]; rfl) (by decide) ?_
    refine lv_aload_n hx hb dX3_replace_28 rfl (lv_at hl 0 rfl) ?_
    refine va_get (D := g.1) (ci := 1) (v := .int (f_kind j)) (C := RX3) (T := TX3) (N := 4) hx hb hts iwX3 hown hK hP (25 + 8 * k + j) (e_sd hk hj (hL.1 _) (Q := (f_paths, f_water, f_wall, f_kind, f_place, f_facing, f_age, f_seeds, f_season, f_z, f_spots))) rfl 0 (by decide) hw0 (fun _ h9 => h9) rfl dX3_replace_29 ?_
    refine lv_istore_n (lv' := [(3, .int (f_kind j)), (0, .ref (ga g (25 + 8 * k + j))), (1, .int a1), (2, .int a2)]) hx hb dX3_replace_32 rfl hl (by decide) rfl (fun ls hl => ?_)
    refine lv_aload_n hx hb dX3_replace_33 rfl (lv_at hl 1 rfl) ?_
    refine lv_iload_n hx hb dX3_replace_34 rfl (lv_at hl 3 rfl) ?_
    refine va_put (D := g.1) (ci := 1) (v := .int a2) (ty := .int) (C := RX3) (T := TX3) (N := 4) hx hb hts iwX3 tyX3 tyX3_ok nmX3 hown hK hP (cD hB.2.2.1 _) hS (25 + 8 * k + j) (e_sd hk hj (hL.1 _) (Q := (f_paths, f_water, f_wall, f_kind, f_place, f_facing, f_age, f_seeds, f_season, f_z, f_spots))) rfl 0 (by decide) hw0 (fun _ h9 => h9) rfl (tyX3_ok 0 (by decide)) rfl rfl (by decide) dX3_replace_35 (fun H locs hP _ hS => ?_)
    have hP : va_P g.1 vwCl (cw g (S (f_paths, f_water, f_wall, (upd f_kind j a2), f_place, f_facing, f_age, f_seeds, f_season, f_z, f_spots))) H := w_eq (s_kind (S := S) (P := (f_paths, f_water, f_wall, f_kind, f_place, f_facing, f_age, f_seeds, f_season, f_z, f_spots)) a2 hk hj hL) hP
    refine lv_iload_n hx hb dX3_replace_38 rfl (lv_at hl 0 rfl) ?_
    have hres : ((f_kind j), (upd f_kind j a2), f_place, f_facing, f_age) = res := (Option.some.inj hf)
    have hP : va_P g.1 vwCl (cw g (S (f_paths, f_water, f_wall, res.2.1, res.2.2.1, res.2.2.2.1, res.2.2.2.2, f_seeds, f_season, f_z, f_spots))) H := by rw [← hres]; exact hP
    exact W.iret (v := (f_kind j)) hx hb hr (fun t ht hW => ⟨congrArg (fun z => Outcome.returned (some (Value.int z.1))) hres, trivial, by rw [ht]; exact hP, hS.F ht⟩) hS.2.2 dX3_replace_39
  · have hf := (if_neg hc1).symm.trans hf
    by_cases hc2 : a1 = (1 : Int32)
    · have hf := (if_pos hc2).symm.trans hf
      refine lv_tableIn (tgt := 40) hx hb dX3_replace_1 (by rw [hc2]; decide) (by rw [hc2]; decide) (by rw [hc2]; rfl) (by decide) ?_
      refine lv_aload_n hx hb dX3_replace_40 rfl (lv_at hl 0 rfl) ?_
      refine va_get (D := g.1) (ci := 1) (v := .int (f_place j)) (C := RX3) (T := TX3) (N := 4) hx hb hts iwX3 hown hK hP (25 + 8 * k + j) (e_sd hk hj (hL.1 _) (Q := (f_paths, f_water, f_wall, f_kind, f_place, f_facing, f_age, f_seeds, f_season, f_z, f_spots))) rfl 1 (by decide) hw1 (fun _ h9 => h9) rfl dX3_replace_41 ?_
      refine lv_istore_n (lv' := [(3, .int (f_place j)), (0, .ref (ga g (25 + 8 * k + j))), (1, .int a1), (2, .int a2)]) hx hb dX3_replace_44 rfl hl (by decide) rfl (fun ls hl => ?_)
      refine lv_aload_n hx hb dX3_replace_45 rfl (lv_at hl 1 rfl) ?_
      refine lv_iload_n hx hb dX3_replace_46 rfl (lv_at hl 3 rfl) ?_
      refine va_put (D := g.1) (ci := 1) (v := .int a2) (ty := .int) (C := RX3) (T := TX3) (N := 4) hx hb hts iwX3 tyX3 tyX3_ok nmX3 hown hK hP (cD hB.2.2.1 _) hS (25 + 8 * k + j) (e_sd hk hj (hL.1 _) (Q := (f_paths, f_water, f_wall, f_kind, f_place, f_facing, f_age, f_seeds, f_season, f_z, f_spots))) rfl 1 (by decide) hw1 (fun _ h9 => h9) rfl (tyX3_ok 1 (by decide)) rfl rfl (by decide) dX3_replace_47 (fun H locs hP _ hS => ?_)
      have hP : va_P g.1 vwCl (cw g (S (f_paths, f_water, f_wall, f_kind, (upd f_place j a2), f_facing, f_age, f_seeds, f_season, f_z, f_spots))) H := w_eq (s_place (S := S) (P := (f_paths, f_water, f_wall, f_kind, f_place, f_facing, f_age, f_seeds, f_season, f_z, f_spots)) a2 hk hj hL) hP
      refine lv_iload_n hx hb dX3_replace_50 rfl (lv_at hl 0 rfl) ?_
      have hres : ((f_place j), f_kind, (upd f_place j a2), f_facing, f_age) = res := (Option.some.inj hf)
      have hP : va_P g.1 vwCl (cw g (S (f_paths, f_water, f_wall, res.2.1, res.2.2.1, res.2.2.2.1, res.2.2.2.2, f_seeds, f_season, f_z, f_spots))) H := by rw [← hres]; exact hP
      exact W.iret (v := (f_place j)) hx hb hr (fun t ht hW => ⟨congrArg (fun z => Outcome.returned (some (Value.int z.1))) hres, trivial, by rw [ht]; exact hP, hS.F ht⟩) hS.2.2 dX3_replace_51
    · have hf := (if_neg hc2).symm.trans hf
      by_cases hc3 : a1 = (2 : Int32)
      · have hf := (if_pos hc3).symm.trans hf
        refine lv_tableIn (tgt := 52) hx hb dX3_replace_1 (by rw [hc3]; decide) (by rw [hc3]; decide) (by rw [hc3]; rfl) (by decide) ?_
        refine lv_aload_n hx hb dX3_replace_52 rfl (lv_at hl 0 rfl) ?_
        refine va_get (D := g.1) (ci := 1) (v := .int (f_facing j)) (C := RX3) (T := TX3) (N := 4) hx hb hts iwX3 hown hK hP (25 + 8 * k + j) (e_sd hk hj (hL.1 _) (Q := (f_paths, f_water, f_wall, f_kind, f_place, f_facing, f_age, f_seeds, f_season, f_z, f_spots))) rfl 2 (by decide) hw2 (fun _ h9 => h9) rfl dX3_replace_53 ?_
        refine lv_istore_n (lv' := [(3, .int (f_facing j)), (0, .ref (ga g (25 + 8 * k + j))), (1, .int a1), (2, .int a2)]) hx hb dX3_replace_56 rfl hl (by decide) rfl (fun ls hl => ?_)
        refine lv_aload_n hx hb dX3_replace_57 rfl (lv_at hl 1 rfl) ?_
        refine lv_iload_n hx hb dX3_replace_58 rfl (lv_at hl 3 rfl) ?_
        refine va_put (D := g.1) (ci := 1) (v := .int a2) (ty := .int) (C := RX3) (T := TX3) (N := 4) hx hb hts iwX3 tyX3 tyX3_ok nmX3 hown hK hP (cD hB.2.2.1 _) hS (25 + 8 * k + j) (e_sd hk hj (hL.1 _) (Q := (f_paths, f_water, f_wall, f_kind, f_place, f_facing, f_age, f_seeds, f_season, f_z, f_spots))) rfl 2 (by decide) hw2 (fun _ h9 => h9) rfl (tyX3_ok 2 (by decide)) rfl rfl (by decide) dX3_replace_59 (fun H locs hP _ hS => ?_)
        have hP : va_P g.1 vwCl (cw g (S (f_paths, f_water, f_wall, f_kind, f_place, (upd f_facing j a2), f_age, f_seeds, f_season, f_z, f_spots))) H := w_eq (s_facing (S := S) (P := (f_paths, f_water, f_wall, f_kind, f_place, f_facing, f_age, f_seeds, f_season, f_z, f_spots)) a2 hk hj hL) hP
        refine lv_iload_n hx hb dX3_replace_62 rfl (lv_at hl 0 rfl) ?_
        have hres : ((f_facing j), f_kind, f_place, (upd f_facing j a2), f_age) = res := (Option.some.inj hf)
        have hP : va_P g.1 vwCl (cw g (S (f_paths, f_water, f_wall, res.2.1, res.2.2.1, res.2.2.2.1, res.2.2.2.2, f_seeds, f_season, f_z, f_spots))) H := by rw [← hres]; exact hP
        exact W.iret (v := (f_facing j)) hx hb hr (fun t ht hW => ⟨congrArg (fun z => Outcome.returned (some (Value.int z.1))) hres, trivial, by rw [ht]; exact hP, hS.F ht⟩) hS.2.2 dX3_replace_63
      · have hf := (if_neg hc3).symm.trans hf
        refine lv_tableOut (tgt := 64) hx hb dX3_replace_1 (by have := lv_neT (a := 0) hc1 rfl; have := lv_neT (a := 1) hc2 rfl; have := lv_neT (a := 2) hc3 rfl; omega) (by decide) ?_
        refine lv_aload_n hx hb dX3_replace_64 rfl (lv_at hl 0 rfl) ?_
        refine va_get (D := g.1) (ci := 1) (v := .int (f_age j)) (C := RX3) (T := TX3) (N := 4) hx hb hts iwX3 hown hK hP (25 + 8 * k + j) (e_sd hk hj (hL.1 _) (Q := (f_paths, f_water, f_wall, f_kind, f_place, f_facing, f_age, f_seeds, f_season, f_z, f_spots))) rfl 3 (by decide) hw3 (fun _ h9 => h9) rfl dX3_replace_65 ?_
        refine lv_istore_n (lv' := [(3, .int (f_age j)), (0, .ref (ga g (25 + 8 * k + j))), (1, .int a1), (2, .int a2)]) hx hb dX3_replace_68 rfl hl (by decide) rfl (fun ls hl => ?_)
        refine lv_aload_n hx hb dX3_replace_69 rfl (lv_at hl 1 rfl) ?_
        refine lv_iload_n hx hb dX3_replace_70 rfl (lv_at hl 3 rfl) ?_
        refine va_put (D := g.1) (ci := 1) (v := .int a2) (ty := .int) (C := RX3) (T := TX3) (N := 4) hx hb hts iwX3 tyX3 tyX3_ok nmX3 hown hK hP (cD hB.2.2.1 _) hS (25 + 8 * k + j) (e_sd hk hj (hL.1 _) (Q := (f_paths, f_water, f_wall, f_kind, f_place, f_facing, f_age, f_seeds, f_season, f_z, f_spots))) rfl 3 (by decide) hw3 (fun _ h9 => h9) rfl (tyX3_ok 3 (by decide)) rfl rfl (by decide) dX3_replace_71 (fun H locs hP _ hS => ?_)
        have hP : va_P g.1 vwCl (cw g (S (f_paths, f_water, f_wall, f_kind, f_place, f_facing, (upd f_age j a2), f_seeds, f_season, f_z, f_spots))) H := w_eq (s_age (S := S) (P := (f_paths, f_water, f_wall, f_kind, f_place, f_facing, f_age, f_seeds, f_season, f_z, f_spots)) a2 hk hj hL) hP
        refine lv_iload_n hx hb dX3_replace_74 rfl (lv_at hl 0 rfl) ?_
        have hres : ((f_age j), f_kind, f_place, f_facing, (upd f_age j a2)) = res := (Option.some.inj hf)
        have hP : va_P g.1 vwCl (cw g (S (f_paths, f_water, f_wall, res.2.1, res.2.2.1, res.2.2.2.1, res.2.2.2.2, f_seeds, f_season, f_z, f_spots))) H := by rw [← hres]; exact hP
        exact W.iret (v := (f_age j)) hx hb hr (fun t ht hW => ⟨congrArg (fun z => Outcome.returned (some (Value.int z.1))) hres, trivial, by rw [ht]; exact hP, hS.F ht⟩) hS.2.2 dX3_replace_75
set_option maxHeartbeats 4000000 in
set_option maxRecDepth 100000 in
theorem ct_X2_aliveSet (l : Launch) (n : Nat) (g : GC) (σ : CS) (k : Nat) (hk : k < 3) (f_paths : Nat → Int32) (f_water : Int64) (f_wall : Int64) (f_kind : Nat → Int32) (f_place : Nat → Int32) (f_facing : Nat → Int32) (f_age : Nat → Int32) (f_seeds : Int32) (f_season : Int32) (f_z : Int32) (f_spots : Nat → Int32) (he : σ.1 k = (f_paths, f_water, f_wall, f_kind, f_place, f_facing, f_age, f_seeds, f_season, f_z, f_spots)) (res : Int32) (hf : fX2_aliveSet n f_kind f_age f_seeds = some res) : Met l yX2_aliveSet wsX2_aliveSet ({ frames := 2, cells := 0, slots := 0, locals := 42 }) (va_Pc [.ref (ga g (1 + k))] (cI g σ)) (qS (some (.int res)) True) 0 0 (fun _ => False) := by
  refine Met.ofW (cc := cX2_aliveSet) (maxL := 4) (ret := (some .int)) (by decide) rfl ?_
  intro p e s m args below meth c s₁ B hml hv
  obtain ⟨rfl, hI⟩ := hv
  have hx := B.exec
  have hb := B.bytes
  have hr := B.returns
  have hts := atoms_spec (ws := wsX2_aliveSet) B.pre
  have hown : s.vm.findClass RX2 = some m.cls := findClass_of_methodNamed B.named
  have hlocks := B.notSynchronized
  have hP := hI.1
  have hB := hI.2
  have hK := hB.1
  have hNW := hB.2.1
  have hS : va_S (gA g) s.heap s.heap [] := va_S.rf
  have hw0 := hts (.fieldLink RX2 48 "SownPaths$Park" "seeds" "I") (by decide +kernel)
  have iwX2 : ∀ w ∈ wsX20, w ∈ wsX2_aliveSet := fun w h => List.mem_cons_of_mem _ (List.mem_append_left _ (List.mem_append_right _ h))
  have hl := lv_entry ([.ref (ga g (1 + k))]) (n := 4) (Nat.le_of_ble_eq_true rfl)
  rw [lg_entry_eq]
  generalize (lg_sl ([.ref (ga g (1 + k))]) ++ List.replicate (4 - (lg_sl ([.ref (ga g (1 + k))])).length) Slot.unset).toArray = ls at hl ⊢
  have hl : lv_has ls 4 [(0, .ref (ga g (1 + k)))] := hl
  unfold fX2_aliveSet at hf
  refine lv_iconst (v := (0 : Int32)) hx hb dX2_aliveSet_0 (by decide) ?_
  refine lv_istore_n (lv' := [(1, .int (0 : Int32)), (0, .ref (ga g (1 + k)))]) hx hb dX2_aliveSet_1 rfl hl (by decide) rfl (fun ls hl => ?_)
  refine lv_iconst (v := (0 : Int32)) hx hb dX2_aliveSet_2 (by decide) ?_
  refine lv_istore_n (lv' := [(2, .int (0 : Int32)), (1, .int (0 : Int32)), (0, .ref (ga g (1 + k)))]) hx hb dX2_aliveSet_3 rfl hl (by decide) rfl (fun ls hl => ?_)
  refine lp_run hf (fun s1 => ∀ (ls : Array Slot), lv_has ls 4 [(0, .ref (ga g (1 + k))), (1, .int s1.1), (2, .int s1.2)] → W p l e _ s m _ below meth c _ [] 0 0 _ (F0 m 4 ls [])) (fun v2 => ∀ (ls : Array Slot), lv_has ls 4 [(1, .int v2.1)] → W p l e _ s m _ below meth c _ [] 0 0 _ (F0 m 41 ls [])) ?_ ?_ _ (lv_sub hl [2, 1, 0] rfl)
  · intro v2 hf ls hl
    refine lv_iload_n hx hb dX2_aliveSet_41 rfl (lv_at hl 0 rfl) ?_
    have hres : v2.1 = res := (Option.some.inj hf)
    exact W.iret (v := v2.1) hx hb hr (fun t ht hW => ⟨congrArg (fun z => Outcome.returned (some (Value.int z))) hres, trivial, ht⟩) t_nil dX2_aliveSet_42
  · intro s1 r1 hf hback1 hexit1 ls hl
    refine lv_iload_n hx hb dX2_aliveSet_4 rfl (lv_at hl 2 rfl) ?_
    refine lv_aload_n hx hb dX2_aliveSet_5 rfl (lv_at hl 0 rfl) ?_
    refine va_get (D := g.1) (ci := 0) (v := .int f_seeds) (C := RX2) (T := TX2) (N := 8) hx hb hts iwX2 hown hK hP (1 + k) (e_pk hk he (Q := (f_paths, f_water, f_wall, f_kind, f_place, f_facing, f_age, f_seeds, f_season, f_z, f_spots))) rfl 4 (by decide) hw0 (fun _ h9 => h9) rfl dX2_aliveSet_6 ?_
    refine lv_icmp_ge (tgt := 41) hx hb dX2_aliveSet_9 (by decide) (fun hc3 => ?_) (fun hc3 => ?_)
    · have hf := (if_pos hc3).symm.trans hf
      exact hexit1 (s1.1, s1.2) (Option.some.inj hf).symm ls (lv_sub hl [1] rfl)
    · have hf := (if_neg hc3).symm.trans hf
      refine lv_aload_n hx hb dX2_aliveSet_12 rfl (lv_at hl 0 rfl) ?_
      refine lv_iload_n hx hb dX2_aliveSet_13 rfl (lv_at hl 2 rfl) ?_
      obtain ⟨q4, hq4, hf⟩ := bd_some hf
      refine kr_S (st1 := [va_rf (Option.map (fun j => ga g (25 + 8 * k + j)) q4)]) (va_runV (As := [.int s1.2]) (rest := []) ⟨hx, hb, hml, hown, hts⟩ (ct_X2_seedAt l n g σ k hk f_paths f_water f_wall f_kind f_place f_facing f_age f_seeds f_season f_z f_spots he s1.2 q4 hq4) (cwV 1 hts gX2_aliveSet_X2_seedAt rfl rfl rfl hd_X2_seedAt ⟨Nat.le_of_ble_eq_true rfl, Nat.le_of_ble_eq_true rfl⟩) ⟨bl_C, va_recv hK hP (ci := 0) (q0 := (1 + k)) rfl (e_pk hk he (Q := (f_paths, f_water, f_wall, f_kind, f_place, f_facing, f_age, f_seeds, f_season, f_z, f_spots))), pr_C rfl hB hP hS⟩ rfl rfl hl.1 rfl (lv_room (Nat.le_of_ble_eq_true rfl)) dX2_aliveSet_14 ⟨Nat.le_refl _, Nat.le_refl _⟩) rfl (fun hn5 => ?_)
      rcases q4 with _ | j6
      · have hf := eo_n hf
        refine W.eq (g2 := F0 m 17 ls [.null]) rfl ?_
        refine lv_astore_nN (lv' := [(3, .null), (0, .ref (ga g (1 + k))), (1, .int s1.1), (2, .int s1.2)]) hx hb dX2_aliveSet_17 rfl hl (by decide) rfl (fun ls hl => ?_)
        refine lv_aload_nN hx hb dX2_aliveSet_18 rfl (lv_at hl 0 rfl) ?_
        refine lv_ifnullN (tgt := 35) hx hb dX2_aliveSet_19 (by decide) ?_
        refine lv_iinc (v := (s1.2 + (1 : Int32))) (lv' := [(2, .int (s1.2 + (1 : Int32))), (3, .null), (0, .ref (ga g (1 + k))), (1, .int s1.1)]) hx hb dX2_aliveSet_35 hl (k := 3) rfl (congrArg (fun y => s1.2 + y) (by decide : Int32.ofInt (1) = (1 : Int32))) (by decide) rfl (fun ls hl => ?_)
        refine lv_goto (tgt := 4) hx hb dX2_aliveSet_38 (by decide) ?_
        exact hback1 _ (Option.some.inj hf).symm ls (lv_sub hl [2, 3, 0] rfl)
      · have hf := eo_s hf
        have hj7 := hn5 _ rfl
        refine W.eq (g2 := F0 m 17 ls [.ref (ga g (25 + 8 * k + j6))]) rfl ?_
        refine lv_astore_n (lv' := [(3, .ref (ga g (25 + 8 * k + j6))), (0, .ref (ga g (1 + k))), (1, .int s1.1), (2, .int s1.2)]) hx hb dX2_aliveSet_17 rfl hl (by decide) rfl (fun ls hl => ?_)
        refine lv_aload_n hx hb dX2_aliveSet_18 rfl (lv_at hl 0 rfl) ?_
        refine lv_ifnull hx hb dX2_aliveSet_19 ?_
        refine lv_aload_n hx hb dX2_aliveSet_22 rfl (lv_at hl 0 rfl) ?_
        obtain ⟨q8, hq8, hf⟩ := bd_some hf
        refine kr_S (st1 := [.int q8]) (va_runV (As := []) (rest := []) ⟨hx, hb, hml, hown, hts⟩ (ct_X3_isAlive l n g σ k hk f_paths f_water f_wall f_kind f_place f_facing f_age f_seeds f_season f_z f_spots he j6 hj7 q8 hq8) (cwV 0 hts gX2_aliveSet_X3_isAlive rfl rfl rfl hd_X3_isAlive ⟨Nat.le_of_ble_eq_true rfl, Nat.le_of_ble_eq_true rfl⟩) ⟨bl_C, va_recv hK hP (ci := 1) (q0 := (25 + 8 * k + j6)) rfl (e_sd hk hj7 he (Q := (f_paths, f_water, f_wall, f_kind, f_place, f_facing, f_age, f_seeds, f_season, f_z, f_spots))), pr_C rfl hB hP hS⟩ rfl rfl hl.1 rfl (lv_room (Nat.le_of_ble_eq_true rfl)) dX2_aliveSet_23 ⟨Nat.le_refl _, Nat.le_refl _⟩) rfl (fun hn9 => ?_)
        refine lv_if_eq (tgt := 35) hx hb dX2_aliveSet_26 (by decide) (fun hc10 => ?_) (fun hc10 => ?_)
        · have hf := (if_pos hc10).symm.trans hf
          refine lv_iinc (v := (s1.2 + (1 : Int32))) (lv' := [(2, .int (s1.2 + (1 : Int32))), (3, .ref (ga g (25 + 8 * k + j6))), (0, .ref (ga g (1 + k))), (1, .int s1.1)]) hx hb dX2_aliveSet_35 hl (k := 3) rfl (congrArg (fun y => s1.2 + y) (by decide : Int32.ofInt (1) = (1 : Int32))) (by decide) rfl (fun ls hl => ?_)
          refine lv_goto (tgt := 4) hx hb dX2_aliveSet_38 (by decide) ?_
          exact hback1 _ (Option.some.inj hf).symm ls (lv_sub hl [2, 3, 0] rfl)
        · have hf := (if_neg hc10).symm.trans hf
          refine lv_iload_n hx hb dX2_aliveSet_29 rfl (lv_at hl 2 rfl) ?_
          refine lv_iconst (v := (1 : Int32)) hx hb dX2_aliveSet_30 (by decide) ?_
          refine lv_iload_n hx hb dX2_aliveSet_31 rfl (lv_at hl 3 rfl) ?_
          refine lv_ishl hx hb dX2_aliveSet_32 ?_
          refine lv_ior hx hb dX2_aliveSet_33 ?_
          refine lv_istore_n (lv' := [(1, .int (s1.1 ||| ((1 : Int32) <<< (s1.2 &&& 31)))), (3, .ref (ga g (25 + 8 * k + j6))), (0, .ref (ga g (1 + k))), (2, .int s1.2)]) hx hb dX2_aliveSet_34 rfl hl (by decide) rfl (fun ls hl => ?_)
          refine lv_iinc (v := (s1.2 + (1 : Int32))) (lv' := [(2, .int (s1.2 + (1 : Int32))), (1, .int (s1.1 ||| ((1 : Int32) <<< (s1.2 &&& 31)))), (3, .ref (ga g (25 + 8 * k + j6))), (0, .ref (ga g (1 + k)))]) hx hb dX2_aliveSet_35 hl (k := 3) rfl (congrArg (fun y => s1.2 + y) (by decide : Int32.ofInt (1) = (1 : Int32))) (by decide) rfl (fun ls hl => ?_)
          refine lv_goto (tgt := 4) hx hb dX2_aliveSet_38 (by decide) ?_
          exact hback1 _ (Option.some.inj hf).symm ls (lv_sub hl [3, 1, 0] rfl)
set_option maxHeartbeats 4000000 in
set_option maxRecDepth 100000 in
theorem ct_X0_spread (l : Launch) (n : Nat) (a0 : Int64) (a2 : Int64) (res : Int64) (hf : fX0_spread n a0 a2 = some res) : Met l yX0_spread wsX0_spread ({ frames := 1, cells := 0, slots := 0, locals := 23 }) (va_Pc [.long a0, .long a2] NW) (qS (some (.long res)) True) 0 0 (fun _ => False) := by
  refine Met.ofW (cc := cX0_spread) (maxL := 9) (ret := (some .long)) (by decide) rfl ?_
  intro p e s m args below meth c s₁ B hml hv
  obtain ⟨rfl, hI⟩ := hv
  have hx := B.exec
  have hb := B.bytes
  have hr := B.returns
  have hts := atoms_spec (ws := wsX0_spread) B.pre
  have hown : s.vm.findClass RX0 = some m.cls := findClass_of_methodNamed B.named
  have hlocks := B.notSynchronized
  have hNW : NW s := hI
  have hl := lv_entry ([.long a0, .long a2]) (n := 9) (Nat.le_of_ble_eq_true rfl)
  rw [lg_entry_eq]
  generalize (lg_sl ([.long a0, .long a2]) ++ List.replicate (9 - (lg_sl ([.long a0, .long a2])).length) Slot.unset).toArray = ls at hl ⊢
  have hl : lv_has ls 9 [(0, .long a0), (2, .long a2)] := hl
  unfold fX0_spread at hf
  refine lv_lload_n hx hb dX0_spread_0 rfl (lv_at hl 0 rfl) ?_
  refine lv_lstore (lv' := [(4, .long a0), (0, .long a0), (2, .long a2)]) hx hb dX0_spread_1 hl (by decide) rfl (fun ls hl => ?_)
  refine lv_iconst (v := (0 : Int32)) hx hb dX0_spread_3 (by decide) ?_
  refine lv_istore (lv' := [(6, .int (0 : Int32)), (4, .long a0), (0, .long a0), (2, .long a2)]) hx hb dX0_spread_4 hl (by decide) rfl (fun ls hl => ?_)
  refine lp_run hf (fun s1 => ∀ (ls : Array Slot), lv_has ls 9 [(2, .long a2), (4, .long s1.1), (6, .int s1.2)] → W p l e _ s m _ below meth c _ [] 0 0 _ (F0 m 6 ls [])) (fun v => Sum.elim (fun v2 => ∀ (ls : Array Slot), lv_has ls 9 [(4, .long v2.1)] → W p l e _ s m _ below meth c _ [] 0 0 _ (F0 m 46 ls [])) (fun x => x = res) v) ?_ ?_ _ (lv_sub hl [3, 1, 0] rfl)
  · intro v2 hf
    rcases v2 with v2 | v2
    · have hf := el_l hf
      intro ls hl
      refine lv_lload hx hb dX0_spread_46 (lv_at hl 0 rfl) ?_
      have hres : v2.1 = res := (Option.some.inj hf)
      exact W.lret (v := v2.1) hx hb hr (fun t ht hW => ⟨congrArg (fun z => Outcome.returned (some (Value.long z))) hres, trivial, ht⟩) t_nil dX0_spread_48
    · exact Option.some.inj hf
  · intro s1 r1 hf hback1 hexit1 ls hl
    refine lv_iload hx hb dX0_spread_6 (lv_at hl 2 rfl) ?_
    refine lv_bipush (v := (36 : Int32)) hx hb dX0_spread_8 (by decide) ?_
    refine lv_icmp_ge (tgt := 46) hx hb dX0_spread_10 (by decide) (fun hc3 => ?_) (fun hc3 => ?_)
    · have hf := (if_pos hc3).symm.trans hf
      exact hexit1 (.inl (s1.1, s1.2)) (Option.some.inj hf).symm ls (lv_sub hl [1] rfl)
    · have hf := (if_neg hc3).symm.trans hf
      refine lv_lload hx hb dX0_spread_13 (lv_at hl 1 rfl) ?_
      refine lv_lload hx hb dX0_spread_15 (lv_at hl 1 rfl) ?_
      obtain ⟨q4, hq4, hf⟩ := bd_some hf
      refine kr_S (st1 := [.long q4, .long s1.1]) (va_runS (As := [.long s1.1]) (rest := [.long s1.1]) ⟨hx, hb, hml, hown, hts⟩ (ct_X0_neighbours l n s1.1 q4 hq4) (va_cwS 1 hts gX0_spread_X0_neighbours rfl rfl rfl hn_X0_neighbours ⟨Nat.le_of_ble_eq_true rfl, Nat.le_of_ble_eq_true rfl⟩) ⟨bl_N, pr_N rfl hNW⟩ rfl rfl hl.1 rfl (lv_room (Nat.le_of_ble_eq_true rfl)) dX0_spread_17 ⟨Nat.le_refl _, Nat.le_refl _⟩) rfl (fun hn5 => ?_)
      refine lv_lload_n hx hb dX0_spread_20 rfl (lv_at hl 0 rfl) ?_
      refine lv_land hx hb dX0_spread_21 ?_
      refine lv_lor hx hb dX0_spread_22 ?_
      refine lv_lstore (lv' := [(7, .long (s1.1 ||| (q4 &&& a2))), (2, .long a2), (4, .long s1.1), (6, .int s1.2)]) hx hb dX0_spread_23 hl (by decide) rfl (fun ls hl => ?_)
      refine lv_lload hx hb dX0_spread_25 (lv_at hl 0 rfl) ?_
      refine lv_lload hx hb dX0_spread_27 (lv_at hl 2 rfl) ?_
      refine W.lcmp hx hb dX0_spread_29 ?_
      refine lv_if_ne (tgt := 36) hx hb dX0_spread_30 (by decide) (fun hc6 => ?_) (fun hc6 => ?_)
      · have hc6 : ¬ ((s1.1 ||| (q4 &&& a2)) = s1.1) := fun h => hc6 ((lg_cmp_eq (s1.1 ||| (q4 &&& a2)) s1.1).mpr h)
        have hf := (if_neg hc6).symm.trans hf
        refine lv_lload hx hb dX0_spread_36 (lv_at hl 0 rfl) ?_
        refine lv_lstore (lv' := [(4, .long (s1.1 ||| (q4 &&& a2))), (7, .long (s1.1 ||| (q4 &&& a2))), (2, .long a2), (6, .int s1.2)]) hx hb dX0_spread_38 hl (by decide) rfl (fun ls hl => ?_)
        refine lv_iinc (v := (s1.2 + (1 : Int32))) (lv' := [(6, .int (s1.2 + (1 : Int32))), (4, .long (s1.1 ||| (q4 &&& a2))), (7, .long (s1.1 ||| (q4 &&& a2))), (2, .long a2)]) hx hb dX0_spread_40 hl (k := 3) rfl (congrArg (fun y => s1.2 + y) (by decide : Int32.ofInt (1) = (1 : Int32))) (by decide) rfl (fun ls hl => ?_)
        refine lv_goto (tgt := 6) hx hb dX0_spread_43 (by decide) ?_
        exact hback1 _ (Option.some.inj hf).symm ls (lv_sub hl [3, 1, 0] rfl)
      · have hc6 := (lg_cmp_eq (s1.1 ||| (q4 &&& a2)) s1.1).mp hc6
        have hf := (if_pos hc6).symm.trans hf
        refine lv_lload hx hb dX0_spread_33 (lv_at hl 2 rfl) ?_
        have hres : s1.1 = res := (hexit1 _ ((Option.some.inj hf)).symm)
        exact W.lret (v := s1.1) hx hb hr (fun t ht hW => ⟨congrArg (fun z => Outcome.returned (some (Value.long z))) hres, trivial, ht⟩) t_nil dX0_spread_35
set_option maxHeartbeats 4000000 in
set_option maxRecDepth 100000 in
theorem ct_X0_countGroups (l : Launch) (n : Nat) (a0 : Int64) (res : Int32) (hf : fX0_countGroups n a0 = some res) : Met l yX0_countGroups wsX0_countGroups ({ frames := 2, cells := 0, slots := 0, locals := 51 }) (va_Pc [.long a0] NW) (qS (some (.int res)) True) 0 0 (fun _ => False) := by
  refine Met.ofW (cc := cX0_countGroups) (maxL := 6) (ret := (some .int)) (by decide) rfl ?_
  intro p e s m args below meth c s₁ B hml hv
  obtain ⟨rfl, hI⟩ := hv
  have hx := B.exec
  have hb := B.bytes
  have hr := B.returns
  have hts := atoms_spec (ws := wsX0_countGroups) B.pre
  have hown : s.vm.findClass RX0 = some m.cls := findClass_of_methodNamed B.named
  have hlocks := B.notSynchronized
  have hNW : NW s := hI
  have hw0 := hts (.constantLong RX0 33 (-1)) (by decide +kernel)
  have hl := lv_entry ([.long a0]) (n := 6) (Nat.le_of_ble_eq_true rfl)
  rw [lg_entry_eq]
  generalize (lg_sl ([.long a0]) ++ List.replicate (6 - (lg_sl ([.long a0])).length) Slot.unset).toArray = ls at hl ⊢
  have hl : lv_has ls 6 [(0, .long a0)] := hl
  unfold fX0_countGroups at hf
  refine lv_lload_n hx hb dX0_countGroups_0 rfl (lv_at hl 0 rfl) ?_
  refine lv_lstore_n (lv' := [(2, .long a0), (0, .long a0)]) hx hb dX0_countGroups_1 rfl hl (by decide) rfl (fun ls hl => ?_)
  refine lv_iconst (v := (0 : Int32)) hx hb dX0_countGroups_2 (by decide) ?_
  refine lv_istore (lv' := [(4, .int (0 : Int32)), (2, .long a0), (0, .long a0)]) hx hb dX0_countGroups_3 hl (by decide) rfl (fun ls hl => ?_)
  refine lv_iconst (v := (0 : Int32)) hx hb dX0_countGroups_5 (by decide) ?_
  refine lv_istore (lv' := [(5, .int (0 : Int32)), (4, .int (0 : Int32)), (2, .long a0), (0, .long a0)]) hx hb dX0_countGroups_6 hl (by decide) rfl (fun ls hl => ?_)
  refine lp_run hf (fun s1 => ∀ (ls : Array Slot), lv_has ls 6 [(0, .long a0), (2, .long s1.1), (4, .int s1.2.1), (5, .int s1.2.2)] → W p l e _ s m _ below meth c _ [] 0 0 _ (F0 m 8 ls [])) (fun v2 => ∀ (ls : Array Slot), lv_has ls 6 [(4, .int v2.2.1)] → W p l e _ s m _ below meth c _ [] 0 0 _ (F0 m 45 ls [])) ?_ ?_ _ (lv_sub hl [3, 2, 1, 0] rfl)
  · intro v2 hf ls hl
    refine lv_iload hx hb dX0_countGroups_45 (lv_at hl 0 rfl) ?_
    have hres : v2.2.1 = res := (Option.some.inj hf)
    exact W.iret (v := v2.2.1) hx hb hr (fun t ht hW => ⟨congrArg (fun z => Outcome.returned (some (Value.int z))) hres, trivial, ht⟩) t_nil dX0_countGroups_47
  · intro s1 r1 hf hback1 hexit1 ls hl
    refine lv_iload hx hb dX0_countGroups_8 (lv_at hl 3 rfl) ?_
    refine lv_bipush (v := (36 : Int32)) hx hb dX0_countGroups_10 (by decide) ?_
    refine lv_icmp_ge (tgt := 45) hx hb dX0_countGroups_12 (by decide) (fun hc3 => ?_) (fun hc3 => ?_)
    · have hf := (if_pos hc3).symm.trans hf
      exact hexit1 (s1.1, s1.2.1, s1.2.2) (Option.some.inj hf).symm ls (lv_sub hl [2] rfl)
    · have hf := (if_neg hc3).symm.trans hf
      refine lv_lload_n hx hb dX0_countGroups_15 rfl (lv_at hl 1 rfl) ?_
      refine lv_lconst (v := (0 : Int64)) hx hb dX0_countGroups_16 (by decide) ?_
      refine W.lcmp hx hb dX0_countGroups_17 ?_
      refine lv_if_eq (tgt := 45) hx hb dX0_countGroups_18 (by decide) (fun hc4 => ?_) (fun hc4 => ?_)
      · have hc4 := (lg_cmp_eq s1.1 (0 : Int64)).mp hc4
        have hf := (if_pos hc4).symm.trans hf
        exact hexit1 (s1.1, s1.2.1, s1.2.2) (Option.some.inj hf).symm ls (lv_sub hl [2] rfl)
      · have hc4 : ¬ (s1.1 = (0 : Int64)) := fun h => hc4 ((lg_cmp_eq s1.1 (0 : Int64)).mpr h)
        have hf := (if_neg hc4).symm.trans hf
        refine lv_lload_n hx hb dX0_countGroups_21 rfl (lv_at hl 1 rfl) ?_
        refine lv_lload_n hx hb dX0_countGroups_22 rfl (lv_at hl 1 rfl) ?_
        refine lv_lload_n hx hb dX0_countGroups_23 rfl (lv_at hl 1 rfl) ?_
        refine lv_lneg hx hb dX0_countGroups_24 ?_
        refine lv_land hx hb dX0_countGroups_25 ?_
        refine lv_lload_n hx hb dX0_countGroups_26 rfl (lv_at hl 0 rfl) ?_
        obtain ⟨q5, hq5, hf⟩ := bd_some hf
        refine kr_S (st1 := [.long q5, .long s1.1]) (va_runS (As := [.long (s1.1 &&& (-s1.1)), .long a0]) (rest := [.long s1.1]) ⟨hx, hb, hml, hown, hts⟩ (ct_X0_spread l n (s1.1 &&& (-s1.1)) a0 q5 hq5) (va_cwS 2 hts gX0_countGroups_X0_spread rfl rfl rfl hn_X0_spread ⟨Nat.le_of_ble_eq_true rfl, Nat.le_of_ble_eq_true rfl⟩) ⟨bl_N, pr_N rfl hNW⟩ rfl rfl hl.1 rfl (lv_room (Nat.le_of_ble_eq_true rfl)) dX0_countGroups_27 ⟨Nat.le_refl _, Nat.le_refl _⟩) rfl (fun hn6 => ?_)
        refine lv_ldc2 (v := (-1 : Int64)) hx hb hown hw0 dX0_countGroups_30 ?_
        refine lv_lxor hx hb dX0_countGroups_33 ?_
        refine lv_land hx hb dX0_countGroups_34 ?_
        refine lv_lstore_n (lv' := [(2, .long (s1.1 &&& (q5 ^^^ (-1 : Int64)))), (0, .long a0), (4, .int s1.2.1), (5, .int s1.2.2)]) hx hb dX0_countGroups_35 rfl hl (by decide) rfl (fun ls hl => ?_)
        refine lv_iinc (v := (s1.2.1 + (1 : Int32))) (lv' := [(4, .int (s1.2.1 + (1 : Int32))), (2, .long (s1.1 &&& (q5 ^^^ (-1 : Int64)))), (0, .long a0), (5, .int s1.2.2)]) hx hb dX0_countGroups_36 hl (k := 2) rfl (congrArg (fun y => s1.2.1 + y) (by decide : Int32.ofInt (1) = (1 : Int32))) (by decide) rfl (fun ls hl => ?_)
        refine lv_iinc (v := (s1.2.2 + (1 : Int32))) (lv' := [(5, .int (s1.2.2 + (1 : Int32))), (4, .int (s1.2.1 + (1 : Int32))), (2, .long (s1.1 &&& (q5 ^^^ (-1 : Int64)))), (0, .long a0)]) hx hb dX0_countGroups_39 hl (k := 3) rfl (congrArg (fun y => s1.2.2 + y) (by decide : Int32.ofInt (1) = (1 : Int32))) (by decide) rfl (fun ls hl => ?_)
        refine lv_goto (tgt := 8) hx hb dX0_countGroups_42 (by decide) ?_
        exact hback1 _ (Option.some.inj hf).symm ls (lv_sub hl [3, 2, 1, 0] rfl)
set_option maxHeartbeats 4000000 in
set_option maxRecDepth 100000 in
theorem ct_X0_least (l : Launch) (n : Nat) (a0 : Int64) (res : Int32) (hf : fX0_least n a0 = some res) : Met l yX0_least wsX0_least ({ frames := 1, cells := 0, slots := 0, locals := 20 }) (va_Pc [.long a0] NW) (qS (some (.int res)) True) 0 0 (fun _ => False) := by
  refine Met.ofW (cc := cX0_least) (maxL := 3) (ret := (some .int)) (by decide) rfl ?_
  intro p e s m args below meth c s₁ B hml hv
  obtain ⟨rfl, hI⟩ := hv
  have hx := B.exec
  have hb := B.bytes
  have hr := B.returns
  have hts := atoms_spec (ws := wsX0_least) B.pre
  have hown : s.vm.findClass RX0 = some m.cls := findClass_of_methodNamed B.named
  have hlocks := B.notSynchronized
  have hNW : NW s := hI
  have hw0 := hts (.initialized RX6) (by decide +kernel)
  have hw1 := hts (.static yX6_bit) (by decide +kernel)
  have hl := lv_entry ([.long a0]) (n := 3) (Nat.le_of_ble_eq_true rfl)
  rw [lg_entry_eq]
  generalize (lg_sl ([.long a0]) ++ List.replicate (3 - (lg_sl ([.long a0])).length) Slot.unset).toArray = ls at hl ⊢
  have hl : lv_has ls 3 [(0, .long a0)] := hl
  unfold fX0_least at hf
  refine lv_iconst (v := (0 : Int32)) hx hb dX0_least_0 (by decide) ?_
  refine lv_istore_n (lv' := [(2, .int (0 : Int32)), (0, .long a0)]) hx hb dX0_least_1 rfl hl (by decide) rfl (fun ls hl => ?_)
  refine lp_run hf (fun s1 => ∀ (ls : Array Slot), lv_has ls 3 [(0, .long a0), (2, .int s1)] → W p l e _ s m _ below meth c _ [] 0 0 _ (F0 m 2 ls [])) (fun v => Sum.elim (fun v2 => ∀ (ls : Array Slot), lv_has ls 3 [] → W p l e _ s m _ below meth c _ [] 0 0 _ (F0 m 27 ls [])) (fun x => x = res) v) ?_ ?_ _ (lv_sub hl [1, 0] rfl)
  · intro v2 hf
    rcases v2 with v2 | v2
    · have hf := el_l hf
      intro ls hl
      refine lv_iconst (v := (-1 : Int32)) hx hb dX0_least_27 (by decide) ?_
      have hres : (-1 : Int32) = res := (Option.some.inj hf)
      exact W.iret (v := (-1 : Int32)) hx hb hr (fun t ht hW => ⟨congrArg (fun z => Outcome.returned (some (Value.int z))) hres, trivial, ht⟩) t_nil dX0_least_28
    · exact Option.some.inj hf
  · intro s1 r1 hf hback1 hexit1 ls hl
    refine lv_iload_n hx hb dX0_least_2 rfl (lv_at hl 1 rfl) ?_
    refine lv_bipush (v := (36 : Int32)) hx hb dX0_least_3 (by decide) ?_
    refine lv_icmp_ge (tgt := 27) hx hb dX0_least_5 (by decide) (fun hc3 => ?_) (fun hc3 => ?_)
    · have hf := (if_pos hc3).symm.trans hf
      exact hexit1 (.inl s1) (Option.some.inj hf).symm ls (lv_sub hl [] rfl)
    · have hf := (if_neg hc3).symm.trans hf
      refine lv_lload_n hx hb dX0_least_8 rfl (lv_at hl 0 rfl) ?_
      refine lv_iload_n hx hb dX0_least_9 rfl (lv_at hl 1 rfl) ?_
      obtain ⟨q4, hq4, hf⟩ := bd_some hf
      refine kr_S (st1 := [.long q4, .long a0]) (va_runSN (As := [.int s1]) (rest := [.long a0]) ⟨hx, hb, hml, hown, hts⟩ (ct_X6_bit l n s1 q4 hq4) (⟨va_cnB 1 hts gX0_least_X6_bit_n17 rfl rfl rfl (ml_X0_17 hNW) hw0 hn_X6_bit ⟨Nat.le_of_ble_eq_true rfl, Nat.le_of_ble_eq_true rfl⟩, hw1, trivial⟩) ⟨bl_N, pr_N rfl hNW⟩ rfl rfl hl.1 rfl (lv_room (Nat.le_of_ble_eq_true rfl)) dX0_least_10 ⟨Nat.le_refl _, Nat.le_refl _⟩) rfl (fun hn5 => ?_)
      refine lv_land hx hb dX0_least_13 ?_
      refine lv_lconst (v := (0 : Int64)) hx hb dX0_least_14 (by decide) ?_
      refine W.lcmp hx hb dX0_least_15 ?_
      refine lv_if_eq (tgt := 21) hx hb dX0_least_16 (by decide) (fun hc6 => ?_) (fun hc6 => ?_)
      · have hc6 := (lg_cmp_eq (a0 &&& q4) (0 : Int64)).mp hc6
        have hf := (if_pos hc6).symm.trans hf
        refine lv_iinc (v := (s1 + (1 : Int32))) (lv' := [(2, .int (s1 + (1 : Int32))), (0, .long a0)]) hx hb dX0_least_21 hl (k := 1) rfl (congrArg (fun y => s1 + y) (by decide : Int32.ofInt (1) = (1 : Int32))) (by decide) rfl (fun ls hl => ?_)
        refine lv_goto (tgt := 2) hx hb dX0_least_24 (by decide) ?_
        exact hback1 _ (Option.some.inj hf).symm ls (lv_sub hl [1, 0] rfl)
      · have hc6 : ¬ ((a0 &&& q4) = (0 : Int64)) := fun h => hc6 ((lg_cmp_eq (a0 &&& q4) (0 : Int64)).mpr h)
        have hf := (if_neg hc6).symm.trans hf
        refine lv_iload_n hx hb dX0_least_19 rfl (lv_at hl 1 rfl) ?_
        have hres : s1 = res := (hexit1 _ ((Option.some.inj hf)).symm)
        exact W.iret (v := s1) hx hb hr (fun t ht hW => ⟨congrArg (fun z => Outcome.returned (some (Value.int z))) hres, trivial, ht⟩) t_nil dX0_least_20
set_option maxHeartbeats 4000000 in
set_option maxRecDepth 100000 in
theorem ct_X5_append (l : Launch) (n : Nat) (g : GC) (S : TP → CS) (hL : zT S) (t_bytes : Nat → Int32) (t_length : Int32) (t_sort : Int32) (t_start : Int32) (t_end : Int32) (t_value : Int32) (a1 : Int32) (res : (Nat → Int32) × Int32) (hf : fX5_append n a1 t_bytes t_length = some res) : Met l yX5_append wsX5_append ({ frames := 0, cells := 0, slots := 0, locals := 0 }) (va_Pc [.ref (ga g 4), .int a1] (cI g (S (t_bytes, t_length, t_sort, t_start, t_end, t_value)))) (qW none True g.1 (cw g (S (res.1, res.2, t_sort, t_start, t_end, t_value))) (gA g)) 0 0 (gA g) := by
  refine Met.ofW (cc := cX5_append) (maxL := 2) (ret := none) (by decide) rfl ?_
  intro p e s m args below meth c s₁ B hml hv
  obtain ⟨rfl, hI⟩ := hv
  have hx := B.exec
  have hb := B.bytes
  have hr := B.returns
  have hts := atoms_spec (ws := wsX5_append) B.pre
  have hown : s.vm.findClass RX5 = some m.cls := findClass_of_methodNamed B.named
  have hlocks := B.notSynchronized
  have hP := hI.1
  have hB := hI.2
  have hK := hB.1
  have hNW := hB.2.1
  have hS : va_S (gA g) s.heap s.heap [] := va_S.rf
  have hw0 := hts (.fieldLink RX5 15 "SownPaths$Tape" "length" "I") (by decide +kernel)
  have hw1 := hts (.fieldLink RX5 9 "SownPaths$Tape" "bytes" "[I") (by decide +kernel)
  have iwX5 : ∀ w ∈ wsX50, w ∈ wsX5_append := fun w h => List.mem_cons_of_mem _ (List.mem_append_right _ h)
  have hl := lv_entry ([.ref (ga g 4), .int a1]) (n := 2) (Nat.le_of_ble_eq_true rfl)
  rw [lg_entry_eq]
  generalize (lg_sl ([.ref (ga g 4), .int a1]) ++ List.replicate (2 - (lg_sl ([.ref (ga g 4), .int a1])).length) Slot.unset).toArray = ls at hl ⊢
  have hl : lv_has ls 2 [(0, .ref (ga g 4)), (1, .int a1)] := hl
  unfold fX5_append at hf
  refine lv_aload_n hx hb dX5_append_0 rfl (lv_at hl 0 rfl) ?_
  refine va_get (D := g.1) (ci := 3) (v := .int t_length) (C := RX5) (T := TX5) (N := 6) hx hb hts iwX5 hown hK hP 4 (e_tp (zT.at hL (t_bytes, t_length, t_sort, t_start, t_end, t_value)) (T := (t_bytes, t_length, t_sort, t_start, t_end, t_value))) rfl 1 (by decide) hw0 (fun _ h9 => h9) rfl dX5_append_1 ?_
  refine lv_if_lt (tgt := 39) hx hb dX5_append_4 (by decide) (fun hc1 => ?_) (fun hc1 => ?_)
  · have hf := (if_pos hc1).symm.trans hf
    have hres : (t_bytes, t_length) = res := (Option.some.inj hf)
    have hP : va_P g.1 vwCl (cw g (S (res.1, res.2, t_sort, t_start, t_end, t_value))) H := by rw [← hres]; exact hP
    exact W.vret hx hb hr (fun t ht hW => ⟨rfl, trivial, by rw [ht]; exact hP, hS.F ht⟩) hS.2.2 dX5_append_39
  · have hf := (if_neg hc1).symm.trans hf
    refine lv_aload_n hx hb dX5_append_7 rfl (lv_at hl 0 rfl) ?_
    refine va_get (D := g.1) (ci := 3) (v := .int t_length) (C := RX5) (T := TX5) (N := 6) hx hb hts iwX5 hown hK hP 4 (e_tp (zT.at hL (t_bytes, t_length, t_sort, t_start, t_end, t_value)) (T := (t_bytes, t_length, t_sort, t_start, t_end, t_value))) rfl 1 (by decide) hw0 (fun _ h9 => h9) rfl dX5_append_8 ?_
    refine lv_aload_n hx hb dX5_append_11 rfl (lv_at hl 0 rfl) ?_
    refine va_get (D := g.1) (ci := 3) (v := .ref (ga g 7)) (C := RX5) (T := TX5) (N := 6) hx hb hts iwX5 hown hK hP 4 (e_tp (zT.at hL (t_bytes, t_length, t_sort, t_start, t_end, t_value)) (T := (t_bytes, t_length, t_sort, t_start, t_end, t_value))) rfl 0 (by decide) hw1 (fun _ h9 => h9) rfl dX5_append_12 ?_
    refine va_alen (v := (120 : Int32)) hx hb hK hP 7 0 (e_by (zT.at hL (t_bytes, t_length, t_sort, t_start, t_end, t_value)) (T := (t_bytes, t_length, t_sort, t_start, t_end, t_value))) rfl rfl dX5_append_15 ?_
    refine lv_icmp_ge (tgt := 39) hx hb dX5_append_16 (by decide) (fun hc2 => ?_) (fun hc2 => ?_)
    · have hf := (if_pos hc2).symm.trans hf
      have hres : (t_bytes, t_length) = res := (Option.some.inj hf)
      have hP : va_P g.1 vwCl (cw g (S (res.1, res.2, t_sort, t_start, t_end, t_value))) H := by rw [← hres]; exact hP
      exact W.vret hx hb hr (fun t ht hW => ⟨rfl, trivial, by rw [ht]; exact hP, hS.F ht⟩) hS.2.2 dX5_append_39
    · have hf := (if_neg hc2).symm.trans hf
      refine lv_aload_n hx hb dX5_append_19 rfl (lv_at hl 0 rfl) ?_
      refine va_get (D := g.1) (ci := 3) (v := .ref (ga g 7)) (C := RX5) (T := TX5) (N := 6) hx hb hts iwX5 hown hK hP 4 (e_tp (zT.at hL (t_bytes, t_length, t_sort, t_start, t_end, t_value)) (T := (t_bytes, t_length, t_sort, t_start, t_end, t_value))) rfl 0 (by decide) hw1 (fun _ h9 => h9) rfl dX5_append_20 ?_
      refine lv_aload_n hx hb dX5_append_23 rfl (lv_at hl 0 rfl) ?_
      refine va_get (D := g.1) (ci := 3) (v := .int t_length) (C := RX5) (T := TX5) (N := 6) hx hb hts iwX5 hown hK hP 4 (e_tp (zT.at hL (t_bytes, t_length, t_sort, t_start, t_end, t_value)) (T := (t_bytes, t_length, t_sort, t_start, t_end, t_value))) rfl 1 (by decide) hw0 (fun _ h9 => h9) rfl dX5_append_24 ?_
      refine lv_iload_n hx hb dX5_append_27 rfl (lv_at hl 1 rfl) ?_
      obtain ⟨hg3, hf⟩ := gd_some hf
      refine va_iast (f := t_bytes) hx hb hK hP (cD hB.2.2.1 _) hS 7 0 (e_by (zT.at hL (t_bytes, t_length, t_sort, t_start, t_end, t_value)) (T := (t_bytes, t_length, t_sort, t_start, t_end, t_value))) rfl hg3 dX5_append_28 (fun H locs hP _ hS => ?_)
      have hP : va_P g.1 vwCl (cw g (S ((upd t_bytes t_length.toNatClampNeg a1), t_length, t_sort, t_start, t_end, t_value))) H := w_eq (s_bytes (S := S) (T := (t_bytes, t_length, t_sort, t_start, t_end, t_value)) (upd t_bytes t_length.toNatClampNeg a1) hL) hP
      refine lv_aload_n hx hb dX5_append_29 rfl (lv_at hl 0 rfl) ?_
      refine lv_dup hx hb dX5_append_30 rfl ?_
      refine va_get (D := g.1) (ci := 3) (v := .int t_length) (C := RX5) (T := TX5) (N := 6) hx hb hts iwX5 hown hK hP 4 (e_tp (zT.at hL ((upd t_bytes t_length.toNatClampNeg a1), t_length, t_sort, t_start, t_end, t_value)) (T := ((upd t_bytes t_length.toNatClampNeg a1), t_length, t_sort, t_start, t_end, t_value))) rfl 1 (by decide) hw0 (fun _ h9 => h9) rfl dX5_append_31 ?_
      refine lv_iconst (v := (1 : Int32)) hx hb dX5_append_34 (by decide) ?_
      refine lv_iadd hx hb dX5_append_35 ?_
      refine va_put (D := g.1) (ci := 3) (v := .int (t_length + (1 : Int32))) (ty := .int) (C := RX5) (T := TX5) (N := 6) hx hb hts iwX5 tyX5 tyX5_ok nmX5 hown hK hP (cD hB.2.2.1 _) hS 4 (e_tp (zT.at hL ((upd t_bytes t_length.toNatClampNeg a1), t_length, t_sort, t_start, t_end, t_value)) (T := ((upd t_bytes t_length.toNatClampNeg a1), t_length, t_sort, t_start, t_end, t_value))) rfl 1 (by decide) hw0 (fun _ h9 => h9) rfl (tyX5_ok 1 (by decide)) rfl rfl (by decide) dX5_append_36 (fun H locs hP _ hS => ?_)
      have hP : va_P g.1 vwCl (cw g (S ((upd t_bytes t_length.toNatClampNeg a1), (t_length + (1 : Int32)), t_sort, t_start, t_end, t_value))) H := w_eq (s_length (S := S) (T := ((upd t_bytes t_length.toNatClampNeg a1), t_length, t_sort, t_start, t_end, t_value)) (t_length + (1 : Int32)) hL) hP
      have hres : ((upd t_bytes t_length.toNatClampNeg a1), (t_length + (1 : Int32))) = res := (Option.some.inj hf)
      have hP : va_P g.1 vwCl (cw g (S (res.1, res.2, t_sort, t_start, t_end, t_value))) H := by rw [← hres]; exact hP
      exact W.vret hx hb hr (fun t ht hW => ⟨rfl, trivial, by rw [ht]; exact hP, hS.F ht⟩) hS.2.2 dX5_append_39
set_option maxHeartbeats 4000000 in
set_option maxRecDepth 100000 in
theorem ct_X4_lay (l : Launch) (n : Nat) (g : GC) (S : SH → CS) (hL : zH S) (h_numbers : Nat → Nat → Int32) (h_bits : Nat → Int32) (h_size : Nat → Int32) (j : Nat) (hj : j < 4) (a1 : Int32) (a2 : Int32) (res : (Nat → Nat → Int32) × (Nat → Int32) × (Nat → Int32)) (hf : fX4_lay n j a1 a2 h_numbers h_bits h_size = some res) : Met l yX4_lay wsX4_lay ({ frames := 0, cells := 0, slots := 0, locals := 0 }) (va_Pc [.ref (ga g (8 + j)), .int a1, .int a2] (cI g (S (h_numbers, h_bits, h_size)))) (qW none True g.1 (cw g (S (res.1, res.2.1, res.2.2))) (gA g)) 0 0 (gA g) := by
  refine Met.ofW (cc := cX4_lay) (maxL := 4) (ret := none) (by decide) rfl ?_
  intro p e s m args below meth c s₁ B hml hv
  obtain ⟨rfl, hI⟩ := hv
  have hx := B.exec
  have hb := B.bytes
  have hr := B.returns
  have hts := atoms_spec (ws := wsX4_lay) B.pre
  have hown : s.vm.findClass RX4 = some m.cls := findClass_of_methodNamed B.named
  have hlocks := B.notSynchronized
  have hP := hI.1
  have hB := hI.2
  have hK := hB.1
  have hNW := hB.2.1
  have hS : va_S (gA g) s.heap s.heap [] := va_S.rf
  have hw0 := hts (.fieldLink RX4 15 "SownPaths$Sheet" "bits" "I") (by decide +kernel)
  have hw1 := hts (.fieldLink RX4 19 "SownPaths$Sheet" "size" "I") (by decide +kernel)
  have hw2 := hts (.fieldLink RX4 9 "SownPaths$Sheet" "numbers" "[I") (by decide +kernel)
  have iwX4 : ∀ w ∈ wsX40, w ∈ wsX4_lay := fun w h => List.mem_cons_of_mem _ (List.mem_append_right _ h)
  have hl := lv_entry ([.ref (ga g (8 + j)), .int a1, .int a2]) (n := 4) (Nat.le_of_ble_eq_true rfl)
  rw [lg_entry_eq]
  generalize (lg_sl ([.ref (ga g (8 + j)), .int a1, .int a2]) ++ List.replicate (4 - (lg_sl ([.ref (ga g (8 + j)), .int a1, .int a2])).length) Slot.unset).toArray = ls at hl ⊢
  have hl : lv_has ls 4 [(0, .ref (ga g (8 + j))), (1, .int a1), (2, .int a2)] := hl
  unfold fX4_lay at hf
  refine lv_aload_n hx hb dX4_lay_0 rfl (lv_at hl 0 rfl) ?_
  refine lv_iload_n hx hb dX4_lay_1 rfl (lv_at hl 1 rfl) ?_
  refine va_put (D := g.1) (ci := 2) (v := .int a1) (ty := .int) (C := RX4) (T := TX4) (N := 3) hx hb hts iwX4 tyX4 tyX4_ok nmX4 hown hK hP (cD hB.2.2.1 _) hS (8 + j) (e_sh hj (zH.at hL (h_numbers, h_bits, h_size)) (T := (h_numbers, h_bits, h_size))) rfl 1 (by decide) hw0 (fun _ h9 => h9) rfl (tyX4_ok 1 (by decide)) rfl rfl (by decide) dX4_lay_2 (fun H locs hP _ hS => ?_)
  have hP : va_P g.1 vwCl (cw g (S (h_numbers, (upd h_bits j a1), h_size))) H := w_eq (s_bits (S := S) (T := (h_numbers, h_bits, h_size)) a1 hj hL) hP
  refine lv_aload_n hx hb dX4_lay_5 rfl (lv_at hl 0 rfl) ?_
  refine lv_iload_n hx hb dX4_lay_6 rfl (lv_at hl 1 rfl) ?_
  refine lv_if_ne (tgt := 14) hx hb dX4_lay_7 (by decide) (fun hc1 => ?_) (fun hc1 => ?_)
  · have hf := (if_neg hc1).symm.trans hf
    refine lv_iload_n hx hb dX4_lay_14 rfl (lv_at hl 2 rfl) ?_
    refine va_put (D := g.1) (ci := 2) (v := .int a2) (ty := .int) (C := RX4) (T := TX4) (N := 3) hx hb hts iwX4 tyX4 tyX4_ok nmX4 hown hK hP (cD hB.2.2.1 _) hS (8 + j) (e_sh hj (zH.at hL (h_numbers, (upd h_bits j a1), h_size)) (T := (h_numbers, (upd h_bits j a1), h_size))) rfl 2 (by decide) hw1 (fun _ h9 => h9) rfl (tyX4_ok 2 (by decide)) rfl rfl (by decide) dX4_lay_15 (fun H locs hP _ hS => ?_)
    have hP : va_P g.1 vwCl (cw g (S (h_numbers, (upd h_bits j a1), (upd h_size j a2)))) H := w_eq (s_size (S := S) (T := (h_numbers, (upd h_bits j a1), h_size)) a2 hj hL) hP
    refine lv_iconst (v := (0 : Int32)) hx hb dX4_lay_18 (by decide) ?_
    refine lv_istore_n (lv' := [(3, .int (0 : Int32)), (0, .ref (ga g (8 + j))), (1, .int a1), (2, .int a2)]) hx hb dX4_lay_19 rfl hl (by decide) rfl (fun ls hl => ?_)
    refine lp_run hf (fun s2 => ∀ (H : Heap) (locs : List Loc) (ls : Array Slot), va_P g.1 vwCl (cw g (S (s2.2, (upd h_bits j a1), (upd h_size j a2)))) H → va_S (gA g) s.heap H locs → lv_has ls 4 [(0, .ref (ga g (8 + j))), (3, .int s2.1)] → W p l e _ s m _ below meth c H locs 0 0 _ (F0 m 20 ls [])) (fun v3 => ∀ (H : Heap) (locs : List Loc) (ls : Array Slot), va_P g.1 vwCl (cw g (S (v3.2, (upd h_bits j a1), (upd h_size j a2)))) H → va_S (gA g) s.heap H locs → lv_has ls 4 [] → W p l e _ s m _ below meth c H locs 0 0 _ (F0 m 42 ls [])) ?_ ?_ _ _ _ hP hS (lv_sub hl [1, 0] rfl)
    · intro v3 hf H locs ls hP hS hl
      have hres : (v3.2, (upd h_bits j a1), (upd h_size j a2)) = res := (Option.some.inj hf)
      have hP : va_P g.1 vwCl (cw g (S (res.1, res.2.1, res.2.2))) H := by rw [← hres]; exact hP
      exact W.vret hx hb hr (fun t ht hW => ⟨rfl, trivial, by rw [ht]; exact hP, hS.F ht⟩) hS.2.2 dX4_lay_42
    · intro s2 r1 hf hback1 hexit1 H locs ls hP hS hl
      refine lv_iload_n hx hb dX4_lay_20 rfl (lv_at hl 1 rfl) ?_
      refine lv_aload_n hx hb dX4_lay_21 rfl (lv_at hl 0 rfl) ?_
      refine va_get (D := g.1) (ci := 2) (v := .ref (ga g (12 + j))) (C := RX4) (T := TX4) (N := 3) hx hb hts iwX4 hown hK hP (8 + j) (e_sh hj (zH.at hL (s2.2, (upd h_bits j a1), (upd h_size j a2))) (T := (s2.2, (upd h_bits j a1), (upd h_size j a2)))) rfl 0 (by decide) hw2 (fun _ h9 => h9) rfl dX4_lay_22 ?_
      refine va_alen (v := (40 : Int32)) hx hb hK hP (12 + j) 0 (e_nu hj (zH.at hL (s2.2, (upd h_bits j a1), (upd h_size j a2))) (T := (s2.2, (upd h_bits j a1), (upd h_size j a2)))) rfl rfl dX4_lay_25 ?_
      refine lv_icmp_ge (tgt := 42) hx hb dX4_lay_26 (by decide) (fun hc4 => ?_) (fun hc4 => ?_)
      · have hf := (if_pos hc4).symm.trans hf
        exact hexit1 (s2.1, s2.2) (Option.some.inj hf).symm H locs ls hP hS (lv_sub hl [] rfl)
      · have hf := (if_neg hc4).symm.trans hf
        refine lv_aload_n hx hb dX4_lay_29 rfl (lv_at hl 0 rfl) ?_
        refine va_get (D := g.1) (ci := 2) (v := .ref (ga g (12 + j))) (C := RX4) (T := TX4) (N := 3) hx hb hts iwX4 hown hK hP (8 + j) (e_sh hj (zH.at hL (s2.2, (upd h_bits j a1), (upd h_size j a2))) (T := (s2.2, (upd h_bits j a1), (upd h_size j a2)))) rfl 0 (by decide) hw2 (fun _ h9 => h9) rfl dX4_lay_30 ?_
        refine lv_iload_n hx hb dX4_lay_33 rfl (lv_at hl 1 rfl) ?_
        refine lv_iconst (v := (0 : Int32)) hx hb dX4_lay_34 (by decide) ?_
        obtain ⟨hg5, hf⟩ := gd_some hf
        refine va_iast (f := (s2.2 j)) hx hb hK hP (cD hB.2.2.1 _) hS (12 + j) 0 (e_nu hj (zH.at hL (s2.2, (upd h_bits j a1), (upd h_size j a2))) (T := (s2.2, (upd h_bits j a1), (upd h_size j a2)))) rfl hg5 dX4_lay_35 (fun H locs hP _ hS => ?_)
        have hP : va_P g.1 vwCl (cw g (S ((updN s2.2 j (upd (s2.2 j) s2.1.toNatClampNeg (0 : Int32))), (upd h_bits j a1), (upd h_size j a2)))) H := w_eq (s_nums (S := S) (T := (s2.2, (upd h_bits j a1), (upd h_size j a2))) (upd (s2.2 j) s2.1.toNatClampNeg (0 : Int32)) hj hL) hP
        refine lv_iinc (v := (s2.1 + (1 : Int32))) (lv' := [(3, .int (s2.1 + (1 : Int32))), (0, .ref (ga g (8 + j)))]) hx hb dX4_lay_36 hl (k := 1) rfl (congrArg (fun y => s2.1 + y) (by decide : Int32.ofInt (1) = (1 : Int32))) (by decide) rfl (fun ls hl => ?_)
        refine lv_goto (tgt := 20) hx hb dX4_lay_39 (by decide) ?_
        exact hback1 _ (Option.some.inj hf).symm H locs ls hP hS (lv_sub hl [1, 0] rfl)
  · have hf := (if_pos hc1).symm.trans hf
    refine lv_iconst (v := (0 : Int32)) hx hb dX4_lay_10 (by decide) ?_
    refine lv_goto (tgt := 15) hx hb dX4_lay_11 (by decide) ?_
    refine va_put (D := g.1) (ci := 2) (v := .int (0 : Int32)) (ty := .int) (C := RX4) (T := TX4) (N := 3) hx hb hts iwX4 tyX4 tyX4_ok nmX4 hown hK hP (cD hB.2.2.1 _) hS (8 + j) (e_sh hj (zH.at hL (h_numbers, (upd h_bits j a1), h_size)) (T := (h_numbers, (upd h_bits j a1), h_size))) rfl 2 (by decide) hw1 (fun _ h9 => h9) rfl (tyX4_ok 2 (by decide)) rfl rfl (by decide) dX4_lay_15 (fun H locs hP _ hS => ?_)
    have hP : va_P g.1 vwCl (cw g (S (h_numbers, (upd h_bits j a1), (upd h_size j (0 : Int32))))) H := w_eq (s_size (S := S) (T := (h_numbers, (upd h_bits j a1), h_size)) (0 : Int32) hj hL) hP
    refine lv_iconst (v := (0 : Int32)) hx hb dX4_lay_18 (by decide) ?_
    refine lv_istore_n (lv' := [(3, .int (0 : Int32)), (0, .ref (ga g (8 + j))), (1, .int a1), (2, .int a2)]) hx hb dX4_lay_19 rfl hl (by decide) rfl (fun ls hl => ?_)
    refine lp_run hf (fun s6 => ∀ (H : Heap) (locs : List Loc) (ls : Array Slot), va_P g.1 vwCl (cw g (S (s6.2, (upd h_bits j a1), (upd h_size j (0 : Int32))))) H → va_S (gA g) s.heap H locs → lv_has ls 4 [(0, .ref (ga g (8 + j))), (3, .int s6.1)] → W p l e _ s m _ below meth c H locs 0 0 _ (F0 m 20 ls [])) (fun v7 => ∀ (H : Heap) (locs : List Loc) (ls : Array Slot), va_P g.1 vwCl (cw g (S (v7.2, (upd h_bits j a1), (upd h_size j (0 : Int32))))) H → va_S (gA g) s.heap H locs → lv_has ls 4 [] → W p l e _ s m _ below meth c H locs 0 0 _ (F0 m 42 ls [])) ?_ ?_ _ _ _ hP hS (lv_sub hl [1, 0] rfl)
    · intro v7 hf H locs ls hP hS hl
      have hres : (v7.2, (upd h_bits j a1), (upd h_size j (0 : Int32))) = res := (Option.some.inj hf)
      have hP : va_P g.1 vwCl (cw g (S (res.1, res.2.1, res.2.2))) H := by rw [← hres]; exact hP
      exact W.vret hx hb hr (fun t ht hW => ⟨rfl, trivial, by rw [ht]; exact hP, hS.F ht⟩) hS.2.2 dX4_lay_42
    · intro s6 r1 hf hback1 hexit1 H locs ls hP hS hl
      refine lv_iload_n hx hb dX4_lay_20 rfl (lv_at hl 1 rfl) ?_
      refine lv_aload_n hx hb dX4_lay_21 rfl (lv_at hl 0 rfl) ?_
      refine va_get (D := g.1) (ci := 2) (v := .ref (ga g (12 + j))) (C := RX4) (T := TX4) (N := 3) hx hb hts iwX4 hown hK hP (8 + j) (e_sh hj (zH.at hL (s6.2, (upd h_bits j a1), (upd h_size j (0 : Int32)))) (T := (s6.2, (upd h_bits j a1), (upd h_size j (0 : Int32))))) rfl 0 (by decide) hw2 (fun _ h9 => h9) rfl dX4_lay_22 ?_
      refine va_alen (v := (40 : Int32)) hx hb hK hP (12 + j) 0 (e_nu hj (zH.at hL (s6.2, (upd h_bits j a1), (upd h_size j (0 : Int32)))) (T := (s6.2, (upd h_bits j a1), (upd h_size j (0 : Int32))))) rfl rfl dX4_lay_25 ?_
      refine lv_icmp_ge (tgt := 42) hx hb dX4_lay_26 (by decide) (fun hc8 => ?_) (fun hc8 => ?_)
      · have hf := (if_pos hc8).symm.trans hf
        exact hexit1 (s6.1, s6.2) (Option.some.inj hf).symm H locs ls hP hS (lv_sub hl [] rfl)
      · have hf := (if_neg hc8).symm.trans hf
        refine lv_aload_n hx hb dX4_lay_29 rfl (lv_at hl 0 rfl) ?_
        refine va_get (D := g.1) (ci := 2) (v := .ref (ga g (12 + j))) (C := RX4) (T := TX4) (N := 3) hx hb hts iwX4 hown hK hP (8 + j) (e_sh hj (zH.at hL (s6.2, (upd h_bits j a1), (upd h_size j (0 : Int32)))) (T := (s6.2, (upd h_bits j a1), (upd h_size j (0 : Int32))))) rfl 0 (by decide) hw2 (fun _ h9 => h9) rfl dX4_lay_30 ?_
        refine lv_iload_n hx hb dX4_lay_33 rfl (lv_at hl 1 rfl) ?_
        refine lv_iconst (v := (0 : Int32)) hx hb dX4_lay_34 (by decide) ?_
        obtain ⟨hg9, hf⟩ := gd_some hf
        refine va_iast (f := (s6.2 j)) hx hb hK hP (cD hB.2.2.1 _) hS (12 + j) 0 (e_nu hj (zH.at hL (s6.2, (upd h_bits j a1), (upd h_size j (0 : Int32)))) (T := (s6.2, (upd h_bits j a1), (upd h_size j (0 : Int32))))) rfl hg9 dX4_lay_35 (fun H locs hP _ hS => ?_)
        have hP : va_P g.1 vwCl (cw g (S ((updN s6.2 j (upd (s6.2 j) s6.1.toNatClampNeg (0 : Int32))), (upd h_bits j a1), (upd h_size j (0 : Int32))))) H := w_eq (s_nums (S := S) (T := (s6.2, (upd h_bits j a1), (upd h_size j (0 : Int32)))) (upd (s6.2 j) s6.1.toNatClampNeg (0 : Int32)) hj hL) hP
        refine lv_iinc (v := (s6.1 + (1 : Int32))) (lv' := [(3, .int (s6.1 + (1 : Int32))), (0, .ref (ga g (8 + j)))]) hx hb dX4_lay_36 hl (k := 1) rfl (congrArg (fun y => s6.1 + y) (by decide : Int32.ofInt (1) = (1 : Int32))) (by decide) rfl (fun ls hl => ?_)
        refine lv_goto (tgt := 20) hx hb dX4_lay_39 (by decide) ?_
        exact hback1 _ (Option.some.inj hf).symm H locs ls hP hS (lv_sub hl [1, 0] rfl)
set_option maxHeartbeats 4000000 in
set_option maxRecDepth 100000 in
theorem ct_X7_finding (l : Launch) (n : Nat) (g : GM) (m_now : Nat → Int32) (m_kept : Nat → Int32) (m_aside : Nat → Int32) (m_isKept : Int32) (m_found : Nat → Int32) (m_steps : Nat → Int32) (m_queue : Nat → Int32) (m_lives : Nat → Int32) (m_treads : Nat → Int32) (m_tape : Nat → Int32) (m_taped : Int32) (m_begins : Int32) (m_ends : Int32) (m_sort : Int32) (m_value : Int32) (m_isWrong : Int32) (m_items : Nat → Int32) (m_itemMany : Int32) (m_seedThen : Int32) (m_groundThen : Nat → Int32) (m_widths : Nat → Int32) (m_sizes : Nat → Int32) (m_numbers : Nat → Int32) (m_moved : Nat → Int32) (a1 : Int32) (res : Int32 × (Nat → Int32)) (hf : fX7_finding n a1 m_found = some res) : Met l yX7_finding wsX7_finding ({ frames := 0, cells := 0, slots := 0, locals := 0 }) (va_Pc [.ref (gm g 0), .int a1] (mI g (m_now, m_kept, m_aside, m_isKept, m_found, m_steps, m_queue, m_lives, m_treads, m_tape, m_taped, m_begins, m_ends, m_sort, m_value, m_isWrong, m_items, m_itemMany, m_seedThen, m_groundThen, m_widths, m_sizes, m_numbers, m_moved))) (qW (some (.int res.1)) True g.1 (mw g (m_now, m_kept, m_aside, m_isKept, res.2, m_steps, m_queue, m_lives, m_treads, m_tape, m_taped, m_begins, m_ends, m_sort, m_value, m_isWrong, m_items, m_itemMany, m_seedThen, m_groundThen, m_widths, m_sizes, m_numbers, m_moved)) (mA g)) 0 0 (mA g) := by
  refine Met.ofW (cc := cX7_finding) (maxL := 2) (ret := (some .int)) (by decide) rfl ?_
  intro p e s m args below meth c s₁ B hml hv
  obtain ⟨rfl, hI⟩ := hv
  have hx := B.exec
  have hb := B.bytes
  have hr := B.returns
  have hts := atoms_spec (ws := wsX7_finding) B.pre
  have hown : s.vm.findClass RX7 = some m.cls := findClass_of_methodNamed B.named
  have hlocks := B.notSynchronized
  have hP := hI.1
  have hB := hI.2
  have hK := hB.1
  have hNW := hB.2.1
  have hS : va_S (mA g) s.heap s.heap [] := va_S.rf
  have hw0 := hts (.fieldLink RX7 19 "SownPathsModel" "found" "[I") (by decide +kernel)
  have hw1 := hts (.constant RX7 95 (-1000001)) (by decide +kernel)
  have iwX7 : ∀ w ∈ wsX70, w ∈ wsX7_finding := fun w h => List.mem_cons_of_mem _ (List.mem_append_right _ h)
  have hl := lv_entry ([.ref (gm g 0), .int a1]) (n := 2) (Nat.le_of_ble_eq_true rfl)
  rw [lg_entry_eq]
  generalize (lg_sl ([.ref (gm g 0), .int a1]) ++ List.replicate (2 - (lg_sl ([.ref (gm g 0), .int a1])).length) Slot.unset).toArray = ls at hl ⊢
  have hl : lv_has ls 2 [(0, .ref (gm g 0)), (1, .int a1)] := hl
  unfold fX7_finding at hf
  refine lv_aload_n hx hb dX7_finding_0 rfl (lv_at hl 0 rfl) ?_
  refine va_get (D := g.1) (ci := 5) (v := .ref (gm g 4)) (C := RX7) (T := TX7) (N := 27) hx hb hts iwX7 hown hK hP 0 k_md rfl 4 (by decide) hw0 (fun _ h9 => h9) rfl dX7_finding_1 ?_
  refine lv_ldc (v := (-1000001 : Int32)) hx hb hown hw1 dX7_finding_4 ?_
  refine lv_iload_n hx hb dX7_finding_6 rfl (lv_at hl 1 rfl) ?_
  refine lv_isub hx hb dX7_finding_7 ?_
  refine lv_iconst (v := (1 : Int32)) hx hb dX7_finding_8 (by decide) ?_
  refine lv_iadd hx hb dX7_finding_9 ?_
  refine lv_dup2_11 hx hb dX7_finding_10 rfl rfl ?_
  obtain ⟨hg1, hf⟩ := gd_some hf
  refine va_iald (f := m_found) hx hb hK hP 4 0 k_found rfl hg1 dX7_finding_11 ?_
  refine lv_iconst (v := (1 : Int32)) hx hb dX7_finding_12 (by decide) ?_
  refine lv_iadd hx hb dX7_finding_13 ?_
  obtain ⟨hg2, hf⟩ := gd_some hf
  refine va_iast (f := m_found) hx hb hK hP (mD hB.2.2.1 _) hS 4 0 k_found rfl hg2 dX7_finding_14 (fun H locs hP _ hS => ?_)
  have hP : va_P g.1 vwCl (mw g (m_now, m_kept, m_aside, m_isKept, (upd m_found (((-1000001 : Int32) - a1) + (1 : Int32)).toNatClampNeg ((m_found (((-1000001 : Int32) - a1) + (1 : Int32)).toNatClampNeg) + (1 : Int32))), m_steps, m_queue, m_lives, m_treads, m_tape, m_taped, m_begins, m_ends, m_sort, m_value, m_isWrong, m_items, m_itemMany, m_seedThen, m_groundThen, m_widths, m_sizes, m_numbers, m_moved)) H := w_eq (k_set_found (upd m_found (((-1000001 : Int32) - a1) + (1 : Int32)).toNatClampNeg ((m_found (((-1000001 : Int32) - a1) + (1 : Int32)).toNatClampNeg) + (1 : Int32)))) hP
  refine lv_aload_n hx hb dX7_finding_15 rfl (lv_at hl 0 rfl) ?_
  refine va_get (D := g.1) (ci := 5) (v := .ref (gm g 4)) (C := RX7) (T := TX7) (N := 27) hx hb hts iwX7 hown hK hP 0 k_md rfl 4 (by decide) hw0 (fun _ h9 => h9) rfl dX7_finding_16 ?_
  refine lv_iconst (v := (0 : Int32)) hx hb dX7_finding_19 (by decide) ?_
  refine lv_dup2_11 hx hb dX7_finding_20 rfl rfl ?_
  refine va_iald (f := (upd m_found (((-1000001 : Int32) - a1) + (1 : Int32)).toNatClampNeg ((m_found (((-1000001 : Int32) - a1) + (1 : Int32)).toNatClampNeg) + (1 : Int32)))) hx hb hK hP 4 0 k_found rfl (vi_lit (by decide)) dX7_finding_21 ?_
  refine lv_iconst (v := (1 : Int32)) hx hb dX7_finding_22 (by decide) ?_
  refine lv_iadd hx hb dX7_finding_23 ?_
  refine va_iast (f := (upd m_found (((-1000001 : Int32) - a1) + (1 : Int32)).toNatClampNeg ((m_found (((-1000001 : Int32) - a1) + (1 : Int32)).toNatClampNeg) + (1 : Int32)))) hx hb hK hP (mD hB.2.2.1 _) hS 4 0 k_found rfl (vi_lit (by decide)) dX7_finding_24 (fun H locs hP _ hS => ?_)
  have hP : va_P g.1 vwCl (mw g (m_now, m_kept, m_aside, m_isKept, (upd (upd m_found (((-1000001 : Int32) - a1) + (1 : Int32)).toNatClampNeg ((m_found (((-1000001 : Int32) - a1) + (1 : Int32)).toNatClampNeg) + (1 : Int32))) (0 : Int32).toNatClampNeg (((upd m_found (((-1000001 : Int32) - a1) + (1 : Int32)).toNatClampNeg ((m_found (((-1000001 : Int32) - a1) + (1 : Int32)).toNatClampNeg) + (1 : Int32))) (0 : Int32).toNatClampNeg) + (1 : Int32))), m_steps, m_queue, m_lives, m_treads, m_tape, m_taped, m_begins, m_ends, m_sort, m_value, m_isWrong, m_items, m_itemMany, m_seedThen, m_groundThen, m_widths, m_sizes, m_numbers, m_moved)) H := w_eq (k_set_found (upd (upd m_found (((-1000001 : Int32) - a1) + (1 : Int32)).toNatClampNeg ((m_found (((-1000001 : Int32) - a1) + (1 : Int32)).toNatClampNeg) + (1 : Int32))) (0 : Int32).toNatClampNeg (((upd m_found (((-1000001 : Int32) - a1) + (1 : Int32)).toNatClampNeg ((m_found (((-1000001 : Int32) - a1) + (1 : Int32)).toNatClampNeg) + (1 : Int32))) (0 : Int32).toNatClampNeg) + (1 : Int32)))) hP
  refine lv_iload_n hx hb dX7_finding_25 rfl (lv_at hl 1 rfl) ?_
  have hres : (a1, (upd (upd m_found (((-1000001 : Int32) - a1) + (1 : Int32)).toNatClampNeg ((m_found (((-1000001 : Int32) - a1) + (1 : Int32)).toNatClampNeg) + (1 : Int32))) (0 : Int32).toNatClampNeg (((upd m_found (((-1000001 : Int32) - a1) + (1 : Int32)).toNatClampNeg ((m_found (((-1000001 : Int32) - a1) + (1 : Int32)).toNatClampNeg) + (1 : Int32))) (0 : Int32).toNatClampNeg) + (1 : Int32)))) = res := (Option.some.inj hf)
  have hP : va_P g.1 vwCl (mw g (m_now, m_kept, m_aside, m_isKept, res.2, m_steps, m_queue, m_lives, m_treads, m_tape, m_taped, m_begins, m_ends, m_sort, m_value, m_isWrong, m_items, m_itemMany, m_seedThen, m_groundThen, m_widths, m_sizes, m_numbers, m_moved)) H := by rw [← hres]; exact hP
  exact W.iret (v := a1) hx hb hr (fun t ht hW => ⟨congrArg (fun z => Outcome.returned (some (Value.int z.1))) hres, trivial, by rw [ht]; exact hP, hS.F ht⟩) hS.2.2 dX7_finding_26
set_option maxHeartbeats 4000000 in
set_option maxRecDepth 100000 in
theorem ct_X7_within (l : Launch) (n : Nat) (a0 : Int32) (a1 : Int32) (a2 : Int32) (res : Int32) (hf : fX7_within n a0 a1 a2 = some res) : Met l yX7_within wsX7_within ({ frames := 0, cells := 0, slots := 0, locals := 0 }) (va_Pc [.int a0, .int a1, .int a2] NW) (qS (some (.int res)) (narrow .boolean (.int res) = .int res)) 0 0 (fun _ => False) := by
  refine Met.ofW (cc := cX7_within) (maxL := 3) (ret := (some .boolean)) (by decide) rfl ?_
  intro p e s m args below meth c s₁ B hml hv
  obtain ⟨rfl, hI⟩ := hv
  have hx := B.exec
  have hb := B.bytes
  have hr := B.returns
  have hts := atoms_spec (ws := wsX7_within) B.pre
  have hown : s.vm.findClass RX7 = some m.cls := findClass_of_methodNamed B.named
  have hlocks := B.notSynchronized
  have hNW : NW s := hI
  have hl := lv_entry ([.int a0, .int a1, .int a2]) (n := 3) (Nat.le_of_ble_eq_true rfl)
  rw [lg_entry_eq]
  generalize (lg_sl ([.int a0, .int a1, .int a2]) ++ List.replicate (3 - (lg_sl ([.int a0, .int a1, .int a2])).length) Slot.unset).toArray = ls at hl ⊢
  have hl : lv_has ls 3 [(0, .int a0), (1, .int a1), (2, .int a2)] := hl
  unfold fX7_within at hf
  refine lv_iload_n hx hb dX7_within_0 rfl (lv_at hl 0 rfl) ?_
  refine lv_iload_n hx hb dX7_within_1 rfl (lv_at hl 1 rfl) ?_
  refine lv_icmp_lt (tgt := 14) hx hb dX7_within_2 (by decide) (fun hc1 => ?_) (fun hc1 => ?_)
  · have hf := (if_pos hc1).symm.trans hf
    refine lv_iconst (v := (0 : Int32)) hx hb dX7_within_14 (by decide) ?_
    have hres : (0 : Int32) = res := (Option.some.inj hf)
    have hnr : narrow .boolean (.int (0 : Int32)) = .int (0 : Int32) := rfl
    exact W.zret (v := (0 : Int32)) hx hb hr hnr (fun t ht hW => ⟨congrArg (fun z => Outcome.returned (some (Value.int z))) hres, Eq.mp (congrArg (fun z => narrow .boolean (.int z) = .int z) hres) hnr, ht⟩) t_nil dX7_within_15
  · have hf := (if_neg hc1).symm.trans hf
    refine lv_iload_n hx hb dX7_within_5 rfl (lv_at hl 0 rfl) ?_
    refine lv_iload_n hx hb dX7_within_6 rfl (lv_at hl 2 rfl) ?_
    refine lv_icmp_gt (tgt := 14) hx hb dX7_within_7 (by decide) (fun hc2 => ?_) (fun hc2 => ?_)
    · have hf := (if_pos hc2).symm.trans hf
      refine lv_iconst (v := (0 : Int32)) hx hb dX7_within_14 (by decide) ?_
      have hres : (0 : Int32) = res := (Option.some.inj hf)
      have hnr : narrow .boolean (.int (0 : Int32)) = .int (0 : Int32) := rfl
      exact W.zret (v := (0 : Int32)) hx hb hr hnr (fun t ht hW => ⟨congrArg (fun z => Outcome.returned (some (Value.int z))) hres, Eq.mp (congrArg (fun z => narrow .boolean (.int z) = .int z) hres) hnr, ht⟩) t_nil dX7_within_15
    · have hf := (if_neg hc2).symm.trans hf
      refine lv_iconst (v := (1 : Int32)) hx hb dX7_within_10 (by decide) ?_
      refine lv_goto (tgt := 15) hx hb dX7_within_11 (by decide) ?_
      have hres : (1 : Int32) = res := (Option.some.inj hf)
      have hnr : narrow .boolean (.int (1 : Int32)) = .int (1 : Int32) := rfl
      exact W.zret (v := (1 : Int32)) hx hb hr hnr (fun t ht hW => ⟨congrArg (fun z => Outcome.returned (some (Value.int z))) hres, Eq.mp (congrArg (fun z => narrow .boolean (.int z) = .int z) hres) hnr, ht⟩) t_nil dX7_within_15
