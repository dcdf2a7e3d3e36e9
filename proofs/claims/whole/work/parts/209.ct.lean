/-! CONTRACTS, by program -/
set_option maxHeartbeats 4000000 in
set_option maxRecDepth 100000 in
theorem ct_X7_seedIs (l : Launch) (n : Nat) (g : GM) (m_now : Nat → Int32) (m_kept : Nat → Int32) (m_aside : Nat → Int32) (m_isKept : Int32) (m_found : Nat → Int32) (m_steps : Nat → Int32) (m_queue : Nat → Int32) (m_lives : Nat → Int32) (m_treads : Nat → Int32) (m_tape : Nat → Int32) (m_taped : Int32) (m_begins : Int32) (m_ends : Int32) (m_sort : Int32) (m_value : Int32) (m_isWrong : Int32) (m_items : Nat → Int32) (m_itemMany : Int32) (m_seedThen : Int32) (m_groundThen : Nat → Int32) (m_widths : Nat → Int32) (m_sizes : Nat → Int32) (m_numbers : Nat → Int32) (m_moved : Nat → Int32) (a1 : Int32) (a2 : Int32) (res : Int32) (hf : fX7_seedIs n a1 a2 m_now = some res) : Met l yX7_seedIs wsX7_seedIs ({ frames := 1, cells := 0, slots := 0, locals := 21 }) (va_Pc [.ref (gm g 0), .int a1, .int a2] (mI g (m_now, m_kept, m_aside, m_isKept, m_found, m_steps, m_queue, m_lives, m_treads, m_tape, m_taped, m_begins, m_ends, m_sort, m_value, m_isWrong, m_items, m_itemMany, m_seedThen, m_groundThen, m_widths, m_sizes, m_numbers, m_moved))) (qS (some (.int res)) True) 0 0 (fun _ => False) := by
  refine Met.ofW (cc := cX7_seedIs) (maxL := 3) (ret := (some .int)) (by decide) rfl ?_
  intro p e s m args below meth c s₁ B hml hv
  obtain ⟨rfl, hI⟩ := hv
  have hx := B.exec
  have hb := B.bytes
  have hr := B.returns
  have hts := atoms_spec (ws := wsX7_seedIs) B.pre
  have hown : s.vm.findClass RX7 = some m.cls := findClass_of_methodNamed B.named
  have hlocks := B.notSynchronized
  have hP := hI.1
  have hB := hI.2
  have hK := hB.1
  have hNW := hB.2.1
  have hS : va_S (mA g) s.heap s.heap [] := va_S.rf
  have hw0 := hts (.fieldLink RX7 9 "SownPathsModel" "now" "[I") (by decide +kernel)
  have iwX7 : ∀ w ∈ wsX70, w ∈ wsX7_seedIs := fun w h => List.mem_cons_of_mem _ (List.mem_append_right _ h)
  have hl := lv_entry ([.ref (gm g 0), .int a1, .int a2]) (n := 3) (Nat.le_of_ble_eq_true rfl)
  rw [lg_entry_eq]
  generalize (lg_sl ([.ref (gm g 0), .int a1, .int a2]) ++ List.replicate (3 - (lg_sl ([.ref (gm g 0), .int a1, .int a2])).length) Slot.unset).toArray = ls at hl ⊢
  have hl : lv_has ls 3 [(0, .ref (gm g 0)), (1, .int a1), (2, .int a2)] := hl
  unfold fX7_seedIs at hf
  refine lv_aload_n hx hb dX7_seedIs_0 rfl (lv_at hl 0 rfl) ?_
  refine va_get (D := g.1) (ci := 5) (v := .ref (gm g 1)) (C := RX7) (T := TX7) (N := 27) hx hb hts iwX7 hown hK hP 0 k_md rfl 0 (by decide) hw0 (fun _ h9 => h9) rfl dX7_seedIs_1 ?_
  refine lv_iload_n hx hb dX7_seedIs_4 rfl (lv_at hl 1 rfl) ?_
  refine lv_iload_n hx hb dX7_seedIs_5 rfl (lv_at hl 2 rfl) ?_
  obtain ⟨q1, hq1, hf⟩ := bd_some hf
  refine kr_S (st1 := [.int q1, .ref (gm g 1)]) (va_runS (As := [.int a1, .int a2]) (rest := [.ref (gm g 1)]) ⟨hx, hb, hml, hown, hts⟩ (ct_X7_at l n a1 a2 q1 hq1) (va_cwS 2 hts gX7_seedIs_X7_at rfl rfl rfl hn_X7_at ⟨Nat.le_of_ble_eq_true rfl, Nat.le_of_ble_eq_true rfl⟩) ⟨bl_N, pr_N rfl hNW⟩ rfl rfl hl.1 rfl (lv_room (Nat.le_of_ble_eq_true rfl)) dX7_seedIs_6 ⟨Nat.le_refl _, Nat.le_refl _⟩) rfl (fun hn2 => ?_)
  obtain ⟨hg3, hf⟩ := gd_some hf
  refine va_iald (f := m_now) hx hb hK hP 1 0 k_now rfl hg3 dX7_seedIs_9 ?_
  have hres : (m_now q1.toNatClampNeg) = res := (Option.some.inj hf)
  exact W.iret (v := (m_now q1.toNatClampNeg)) hx hb hr (fun t ht hW => ⟨congrArg (fun z => Outcome.returned (some (Value.int z))) hres, trivial, ht⟩) t_nil dX7_seedIs_10
set_option maxHeartbeats 4000000 in
set_option maxRecDepth 100000 in
theorem ct_X7_isGrass (l : Launch) (n : Nat) (g : GM) (m_now : Nat → Int32) (m_kept : Nat → Int32) (m_aside : Nat → Int32) (m_isKept : Int32) (m_found : Nat → Int32) (m_steps : Nat → Int32) (m_queue : Nat → Int32) (m_lives : Nat → Int32) (m_treads : Nat → Int32) (m_tape : Nat → Int32) (m_taped : Int32) (m_begins : Int32) (m_ends : Int32) (m_sort : Int32) (m_value : Int32) (m_isWrong : Int32) (m_items : Nat → Int32) (m_itemMany : Int32) (m_seedThen : Int32) (m_groundThen : Nat → Int32) (m_widths : Nat → Int32) (m_sizes : Nat → Int32) (m_numbers : Nat → Int32) (m_moved : Nat → Int32) (a1 : Int32) (res : Int32) (hf : fX7_isGrass n a1 m_now = some res) : Met l yX7_isGrass wsX7_isGrass ({ frames := 0, cells := 0, slots := 0, locals := 0 }) (va_Pc [.ref (gm g 0), .int a1] (mI g (m_now, m_kept, m_aside, m_isKept, m_found, m_steps, m_queue, m_lives, m_treads, m_tape, m_taped, m_begins, m_ends, m_sort, m_value, m_isWrong, m_items, m_itemMany, m_seedThen, m_groundThen, m_widths, m_sizes, m_numbers, m_moved))) (qS (some (.int res)) (narrow .boolean (.int res) = .int res)) 0 0 (fun _ => False) := by
  refine Met.ofW (cc := cX7_isGrass) (maxL := 2) (ret := (some .boolean)) (by decide) rfl ?_
  intro p e s m args below meth c s₁ B hml hv
  obtain ⟨rfl, hI⟩ := hv
  have hx := B.exec
  have hb := B.bytes
  have hr := B.returns
  have hts := atoms_spec (ws := wsX7_isGrass) B.pre
  have hown : s.vm.findClass RX7 = some m.cls := findClass_of_methodNamed B.named
  have hlocks := B.notSynchronized
  have hP := hI.1
  have hB := hI.2
  have hK := hB.1
  have hNW := hB.2.1
  have hS : va_S (mA g) s.heap s.heap [] := va_S.rf
  have hw0 := hts (.fieldLink RX7 9 "SownPathsModel" "now" "[I") (by decide +kernel)
  have iwX7 : ∀ w ∈ wsX70, w ∈ wsX7_isGrass := fun w h => List.mem_cons_of_mem _ (List.mem_append_right _ h)
  have hl := lv_entry ([.ref (gm g 0), .int a1]) (n := 2) (Nat.le_of_ble_eq_true rfl)
  rw [lg_entry_eq]
  generalize (lg_sl ([.ref (gm g 0), .int a1]) ++ List.replicate (2 - (lg_sl ([.ref (gm g 0), .int a1])).length) Slot.unset).toArray = ls at hl ⊢
  have hl : lv_has ls 2 [(0, .ref (gm g 0)), (1, .int a1)] := hl
  unfold fX7_isGrass at hf
  refine lv_aload_n hx hb dX7_isGrass_0 rfl (lv_at hl 0 rfl) ?_
  refine va_get (D := g.1) (ci := 5) (v := .ref (gm g 1)) (C := RX7) (T := TX7) (N := 27) hx hb hts iwX7 hown hK hP 0 k_md rfl 0 (by decide) hw0 (fun _ h9 => h9) rfl dX7_isGrass_1 ?_
  refine lv_bipush (v := (13 : Int32)) hx hb dX7_isGrass_4 (by decide) ?_
  refine lv_iload_n hx hb dX7_isGrass_6 rfl (lv_at hl 1 rfl) ?_
  refine lv_iadd hx hb dX7_isGrass_7 ?_
  obtain ⟨hg1, hf⟩ := gd_some hf
  refine va_iald (f := m_now) hx hb hK hP 1 0 k_now rfl hg1 dX7_isGrass_8 ?_
  refine lv_if_ne (tgt := 16) hx hb dX7_isGrass_9 (by decide) (fun hc2 => ?_) (fun hc2 => ?_)
  · have hf := (if_neg hc2).symm.trans hf
    refine lv_iconst (v := (0 : Int32)) hx hb dX7_isGrass_16 (by decide) ?_
    have hres : (0 : Int32) = res := (Option.some.inj hf)
    have hnr : narrow .boolean (.int (0 : Int32)) = .int (0 : Int32) := rfl
    exact W.zret (v := (0 : Int32)) hx hb hr hnr (fun t ht hW => ⟨congrArg (fun z => Outcome.returned (some (Value.int z))) hres, Eq.mp (congrArg (fun z => narrow .boolean (.int z) = .int z) hres) hnr, ht⟩) t_nil dX7_isGrass_17
  · have hf := (if_pos hc2).symm.trans hf
    refine lv_iconst (v := (1 : Int32)) hx hb dX7_isGrass_12 (by decide) ?_
    refine lv_goto (tgt := 17) hx hb dX7_isGrass_13 (by decide) ?_
    have hres : (1 : Int32) = res := (Option.some.inj hf)
    have hnr : narrow .boolean (.int (1 : Int32)) = .int (1 : Int32) := rfl
    exact W.zret (v := (1 : Int32)) hx hb hr hnr (fun t ht hW => ⟨congrArg (fun z => Outcome.returned (some (Value.int z))) hres, Eq.mp (congrArg (fun z => narrow .boolean (.int z) = .int z) hres) hnr, ht⟩) t_nil dX7_isGrass_17
set_option maxHeartbeats 4000000 in
set_option maxRecDepth 100000 in
theorem ct_X7_hasPath (l : Launch) (n : Nat) (g : GM) (m_now : Nat → Int32) (m_kept : Nat → Int32) (m_aside : Nat → Int32) (m_isKept : Int32) (m_found : Nat → Int32) (m_steps : Nat → Int32) (m_queue : Nat → Int32) (m_lives : Nat → Int32) (m_treads : Nat → Int32) (m_tape : Nat → Int32) (m_taped : Int32) (m_begins : Int32) (m_ends : Int32) (m_sort : Int32) (m_value : Int32) (m_isWrong : Int32) (m_items : Nat → Int32) (m_itemMany : Int32) (m_seedThen : Int32) (m_groundThen : Nat → Int32) (m_widths : Nat → Int32) (m_sizes : Nat → Int32) (m_numbers : Nat → Int32) (m_moved : Nat → Int32) (a1 : Int32) (res : Int32) (hf : fX7_hasPath n a1 m_now = some res) : Met l yX7_hasPath wsX7_hasPath ({ frames := 0, cells := 0, slots := 0, locals := 0 }) (va_Pc [.ref (gm g 0), .int a1] (mI g (m_now, m_kept, m_aside, m_isKept, m_found, m_steps, m_queue, m_lives, m_treads, m_tape, m_taped, m_begins, m_ends, m_sort, m_value, m_isWrong, m_items, m_itemMany, m_seedThen, m_groundThen, m_widths, m_sizes, m_numbers, m_moved))) (qS (some (.int res)) (narrow .boolean (.int res) = .int res)) 0 0 (fun _ => False) := by
  refine Met.ofW (cc := cX7_hasPath) (maxL := 2) (ret := (some .boolean)) (by decide) rfl ?_
  intro p e s m args below meth c s₁ B hml hv
  obtain ⟨rfl, hI⟩ := hv
  have hx := B.exec
  have hb := B.bytes
  have hr := B.returns
  have hts := atoms_spec (ws := wsX7_hasPath) B.pre
  have hown : s.vm.findClass RX7 = some m.cls := findClass_of_methodNamed B.named
  have hlocks := B.notSynchronized
  have hP := hI.1
  have hB := hI.2
  have hK := hB.1
  have hNW := hB.2.1
  have hS : va_S (mA g) s.heap s.heap [] := va_S.rf
  have hw0 := hts (.fieldLink RX7 9 "SownPathsModel" "now" "[I") (by decide +kernel)
  have iwX7 : ∀ w ∈ wsX70, w ∈ wsX7_hasPath := fun w h => List.mem_cons_of_mem _ (List.mem_append_right _ h)
  have hl := lv_entry ([.ref (gm g 0), .int a1]) (n := 2) (Nat.le_of_ble_eq_true rfl)
  rw [lg_entry_eq]
  generalize (lg_sl ([.ref (gm g 0), .int a1]) ++ List.replicate (2 - (lg_sl ([.ref (gm g 0), .int a1])).length) Slot.unset).toArray = ls at hl ⊢
  have hl : lv_has ls 2 [(0, .ref (gm g 0)), (1, .int a1)] := hl
  unfold fX7_hasPath at hf
  refine lv_aload_n hx hb dX7_hasPath_0 rfl (lv_at hl 0 rfl) ?_
  refine va_get (D := g.1) (ci := 5) (v := .ref (gm g 1)) (C := RX7) (T := TX7) (N := 27) hx hb hts iwX7 hown hK hP 0 k_md rfl 0 (by decide) hw0 (fun _ h9 => h9) rfl dX7_hasPath_1 ?_
  refine lv_bipush (v := (49 : Int32)) hx hb dX7_hasPath_4 (by decide) ?_
  refine lv_iload_n hx hb dX7_hasPath_6 rfl (lv_at hl 1 rfl) ?_
  refine lv_iadd hx hb dX7_hasPath_7 ?_
  obtain ⟨hg1, hf⟩ := gd_some hf
  refine va_iald (f := m_now) hx hb hK hP 1 0 k_now rfl hg1 dX7_hasPath_8 ?_
  refine lv_if_le (tgt := 16) hx hb dX7_hasPath_9 (by decide) (fun hc2 => ?_) (fun hc2 => ?_)
  · have hf := (if_pos hc2).symm.trans hf
    refine lv_iconst (v := (0 : Int32)) hx hb dX7_hasPath_16 (by decide) ?_
    have hres : (0 : Int32) = res := (Option.some.inj hf)
    have hnr : narrow .boolean (.int (0 : Int32)) = .int (0 : Int32) := rfl
    exact W.zret (v := (0 : Int32)) hx hb hr hnr (fun t ht hW => ⟨congrArg (fun z => Outcome.returned (some (Value.int z))) hres, Eq.mp (congrArg (fun z => narrow .boolean (.int z) = .int z) hres) hnr, ht⟩) t_nil dX7_hasPath_17
  · have hf := (if_neg hc2).symm.trans hf
    refine lv_iconst (v := (1 : Int32)) hx hb dX7_hasPath_12 (by decide) ?_
    refine lv_goto (tgt := 17) hx hb dX7_hasPath_13 (by decide) ?_
    have hres : (1 : Int32) = res := (Option.some.inj hf)
    have hnr : narrow .boolean (.int (1 : Int32)) = .int (1 : Int32) := rfl
    exact W.zret (v := (1 : Int32)) hx hb hr hnr (fun t ht hW => ⟨congrArg (fun z => Outcome.returned (some (Value.int z))) hres, Eq.mp (congrArg (fun z => narrow .boolean (.int z) = .int z) hres) hnr, ht⟩) t_nil dX7_hasPath_17
set_option maxHeartbeats 4000000 in
set_option maxRecDepth 100000 in
theorem ct_X7_beside (l : Launch) (n : Nat) (a0 : Int32) (a1 : Int32) (res : Int32) (hf : fX7_beside n a0 a1 = some res) : Met l yX7_beside wsX7_beside ({ frames := 0, cells := 0, slots := 0, locals := 0 }) (va_Pc [.int a0, .int a1] NW) (qS (some (.int res)) True) 0 0 (fun _ => False) := by
  refine Met.ofW (cc := cX7_beside) (maxL := 2) (ret := (some .int)) (by decide) rfl ?_
  intro p e s m args below meth c s₁ B hml hv
  obtain ⟨rfl, hI⟩ := hv
  have hx := B.exec
  have hb := B.bytes
  have hr := B.returns
  have hts := atoms_spec (ws := wsX7_beside) B.pre
  have hown : s.vm.findClass RX7 = some m.cls := findClass_of_methodNamed B.named
  have hlocks := B.notSynchronized
  have hNW : NW s := hI
  have hl := lv_entry ([.int a0, .int a1]) (n := 2) (Nat.le_of_ble_eq_true rfl)
  rw [lg_entry_eq]
  generalize (lg_sl ([.int a0, .int a1]) ++ List.replicate (2 - (lg_sl ([.int a0, .int a1])).length) Slot.unset).toArray = ls at hl ⊢
  have hl : lv_has ls 2 [(0, .int a0), (1, .int a1)] := hl
  unfold fX7_beside at hf
  refine lv_iload_n hx hb dX7_beside_0 rfl (lv_at hl 1 rfl) ?_
  by_cases hc1 : a1 = (0 : Int32)
  · have hf := (if_pos hc1).symm.trans hf
    refine lv_tableIn (tgt := 28) hx hb dX7_beside_1 (by rw [hc1]; decide) (by rw [hc1]; decide) (by rw [hc1]; rfl) (by decide) ?_
    refine lv_iload_n hx hb dX7_beside_28 rfl (lv_at hl 0 rfl) ?_
    refine lv_bipush (v := (6 : Int32)) hx hb dX7_beside_29 (by decide) ?_
    refine lv_icmp_ge (tgt := 38) hx hb dX7_beside_31 (by decide) (fun hc2 => ?_) (fun hc2 => ?_)
    · have hf := (if_pos hc2).symm.trans hf
      refine lv_iload_n hx hb dX7_beside_38 rfl (lv_at hl 0 rfl) ?_
      refine lv_bipush (v := (6 : Int32)) hx hb dX7_beside_39 (by decide) ?_
      refine lv_isub hx hb dX7_beside_41 ?_
      have hres : (a0 - (6 : Int32)) = res := (Option.some.inj hf)
      exact W.iret (v := (a0 - (6 : Int32))) hx hb hr (fun t ht hW => ⟨congrArg (fun z => Outcome.returned (some (Value.int z))) hres, trivial, ht⟩) t_nil dX7_beside_42
    · have hf := (if_neg hc2).symm.trans hf
      refine lv_iconst (v := (-1 : Int32)) hx hb dX7_beside_34 (by decide) ?_
      refine lv_goto (tgt := 42) hx hb dX7_beside_35 (by decide) ?_
      have hres : (-1 : Int32) = res := (Option.some.inj hf)
      exact W.iret (v := (-1 : Int32)) hx hb hr (fun t ht hW => ⟨congrArg (fun z => Outcome.returned (some (Value.int z))) hres, trivial, ht⟩) t_nil dX7_beside_42
  · have hf := (if_neg hc1).symm.trans hf
    by_cases hc3 : a1 = (1 : Int32)
    · have hf := (if_pos hc3).symm.trans hf
      refine lv_tableIn (tgt := 43) hx hb dX7_beside_1 (by rw [hc3]; decide) (by rw [hc3]; decide) (by rw [hc3]; rfl) (by decide) ?_
      refine lv_iload_n hx hb dX7_beside_43 rfl (lv_at hl 0 rfl) ?_
      refine lv_bipush (v := (6 : Int32)) hx hb dX7_beside_44 (by decide) ?_
      refine lv_irem hx hb dX7_beside_46 (by decide) ?_
      refine lv_iconst (v := (5 : Int32)) hx hb dX7_beside_47 (by decide) ?_
      refine lv_icmp_ne (tgt := 55) hx hb dX7_beside_48 (by decide) (fun hc4 => ?_) (fun hc4 => ?_)
      · have hf := (if_neg hc4).symm.trans hf
        refine lv_iload_n hx hb dX7_beside_55 rfl (lv_at hl 0 rfl) ?_
        refine lv_iconst (v := (1 : Int32)) hx hb dX7_beside_56 (by decide) ?_
        refine lv_iadd hx hb dX7_beside_57 ?_
        have hres : (a0 + (1 : Int32)) = res := (Option.some.inj hf)
        exact W.iret (v := (a0 + (1 : Int32))) hx hb hr (fun t ht hW => ⟨congrArg (fun z => Outcome.returned (some (Value.int z))) hres, trivial, ht⟩) t_nil dX7_beside_58
      · have hf := (if_pos hc4).symm.trans hf
        refine lv_iconst (v := (-1 : Int32)) hx hb dX7_beside_51 (by decide) ?_
        refine lv_goto (tgt := 58) hx hb dX7_beside_52 (by decide) ?_
        have hres : (-1 : Int32) = res := (Option.some.inj hf)
        exact W.iret (v := (-1 : Int32)) hx hb hr (fun t ht hW => ⟨congrArg (fun z => Outcome.returned (some (Value.int z))) hres, trivial, ht⟩) t_nil dX7_beside_58
    · have hf := (if_neg hc3).symm.trans hf
      by_cases hc5 : a1 = (2 : Int32)
      · have hf := (if_pos hc5).symm.trans hf
        refine lv_tableIn (tgt := 59) hx hb dX7_beside_1 (by rw [hc5]; decide) (by rw [hc5]; decide) (by rw [hc5]; rfl) (by decide) ?_
        refine lv_iload_n hx hb dX7_beside_59 rfl (lv_at hl 0 rfl) ?_
        refine lv_bipush (v := (6 : Int32)) hx hb dX7_beside_60 (by decide) ?_
        refine lv_iadd hx hb dX7_beside_62 ?_
        refine lv_bipush (v := (36 : Int32)) hx hb dX7_beside_63 (by decide) ?_
        refine lv_icmp_ge (tgt := 75) hx hb dX7_beside_65 (by decide) (fun hc6 => ?_) (fun hc6 => ?_)
        · have hf := (if_pos hc6).symm.trans hf
          refine lv_iconst (v := (-1 : Int32)) hx hb dX7_beside_75 (by decide) ?_
          have hres : (-1 : Int32) = res := (Option.some.inj hf)
          exact W.iret (v := (-1 : Int32)) hx hb hr (fun t ht hW => ⟨congrArg (fun z => Outcome.returned (some (Value.int z))) hres, trivial, ht⟩) t_nil dX7_beside_76
        · have hf := (if_neg hc6).symm.trans hf
          refine lv_iload_n hx hb dX7_beside_68 rfl (lv_at hl 0 rfl) ?_
          refine lv_bipush (v := (6 : Int32)) hx hb dX7_beside_69 (by decide) ?_
          refine lv_iadd hx hb dX7_beside_71 ?_
          refine lv_goto (tgt := 76) hx hb dX7_beside_72 (by decide) ?_
          have hres : (a0 + (6 : Int32)) = res := (Option.some.inj hf)
          exact W.iret (v := (a0 + (6 : Int32))) hx hb hr (fun t ht hW => ⟨congrArg (fun z => Outcome.returned (some (Value.int z))) hres, trivial, ht⟩) t_nil dX7_beside_76
      · have hf := (if_neg hc5).symm.trans hf
        refine lv_tableOut (tgt := 77) hx hb dX7_beside_1 (by have := lv_neT (a := 0) hc1 rfl; have := lv_neT (a := 1) hc3 rfl; have := lv_neT (a := 2) hc5 rfl; omega) (by decide) ?_
        refine lv_iload_n hx hb dX7_beside_77 rfl (lv_at hl 0 rfl) ?_
        refine lv_bipush (v := (6 : Int32)) hx hb dX7_beside_78 (by decide) ?_
        refine lv_irem hx hb dX7_beside_80 (by decide) ?_
        refine lv_if_ne (tgt := 88) hx hb dX7_beside_81 (by decide) (fun hc7 => ?_) (fun hc7 => ?_)
        · have hf := (if_neg hc7).symm.trans hf
          refine lv_iload_n hx hb dX7_beside_88 rfl (lv_at hl 0 rfl) ?_
          refine lv_iconst (v := (1 : Int32)) hx hb dX7_beside_89 (by decide) ?_
          refine lv_isub hx hb dX7_beside_90 ?_
          have hres : (a0 - (1 : Int32)) = res := (Option.some.inj hf)
          exact W.iret (v := (a0 - (1 : Int32))) hx hb hr (fun t ht hW => ⟨congrArg (fun z => Outcome.returned (some (Value.int z))) hres, trivial, ht⟩) t_nil dX7_beside_91
        · have hf := (if_pos hc7).symm.trans hf
          refine lv_iconst (v := (-1 : Int32)) hx hb dX7_beside_84 (by decide) ?_
          refine lv_goto (tgt := 91) hx hb dX7_beside_85 (by decide) ?_
          have hres : (-1 : Int32) = res := (Option.some.inj hf)
          exact W.iret (v := (-1 : Int32)) hx hb hr (fun t ht hW => ⟨congrArg (fun z => Outcome.returned (some (Value.int z))) hres, trivial, ht⟩) t_nil dX7_beside_91
set_option maxHeartbeats 4000000 in
set_option maxRecDepth 100000 in
theorem ct_X7_lay (l : Launch) (n : Nat) (g : GM) (m_now : Nat → Int32) (m_kept : Nat → Int32) (m_aside : Nat → Int32) (m_isKept : Int32) (m_found : Nat → Int32) (m_steps : Nat → Int32) (m_queue : Nat → Int32) (m_lives : Nat → Int32) (m_treads : Nat → Int32) (m_tape : Nat → Int32) (m_taped : Int32) (m_begins : Int32) (m_ends : Int32) (m_sort : Int32) (m_value : Int32) (m_isWrong : Int32) (m_items : Nat → Int32) (m_itemMany : Int32) (m_seedThen : Int32) (m_groundThen : Nat → Int32) (m_widths : Nat → Int32) (m_sizes : Nat → Int32) (m_numbers : Nat → Int32) (m_moved : Nat → Int32) (a1 : Int32) (a2 : Int32) (res : Int32 × (Nat → Int32)) (hf : fX7_lay n a1 a2 m_now = some res) : Met l yX7_lay wsX7_lay ({ frames := 1, cells := 0, slots := 0, locals := 23 }) (va_Pc [.ref (gm g 0), .int a1, .int a2] (mI g (m_now, m_kept, m_aside, m_isKept, m_found, m_steps, m_queue, m_lives, m_treads, m_tape, m_taped, m_begins, m_ends, m_sort, m_value, m_isWrong, m_items, m_itemMany, m_seedThen, m_groundThen, m_widths, m_sizes, m_numbers, m_moved))) (qW (some (.int res.1)) True g.1 (mw g (res.2, m_kept, m_aside, m_isKept, m_found, m_steps, m_queue, m_lives, m_treads, m_tape, m_taped, m_begins, m_ends, m_sort, m_value, m_isWrong, m_items, m_itemMany, m_seedThen, m_groundThen, m_widths, m_sizes, m_numbers, m_moved)) (mA g)) 0 0 (mA g) := by
  refine Met.ofW (cc := cX7_lay) (maxL := 3) (ret := (some .int)) (by decide) rfl ?_
  intro p e s m args below meth c s₁ B hml hv
  obtain ⟨rfl, hI⟩ := hv
  have hx := B.exec
  have hb := B.bytes
  have hr := B.returns
  have hts := atoms_spec (ws := wsX7_lay) B.pre
  have hown : s.vm.findClass RX7 = some m.cls := findClass_of_methodNamed B.named
  have hlocks := B.notSynchronized
  have hP := hI.1
  have hB := hI.2
  have hK := hB.1
  have hNW := hB.2.1
  have hS : va_S (mA g) s.heap s.heap [] := va_S.rf
  have hw0 := hts (.fieldLink RX7 9 "SownPathsModel" "now" "[I") (by decide +kernel)
  have iwX7 : ∀ w ∈ wsX70, w ∈ wsX7_lay := fun w h => List.mem_cons_of_mem _ (List.mem_append_right _ h)
  have hl := lv_entry ([.ref (gm g 0), .int a1, .int a2]) (n := 3) (Nat.le_of_ble_eq_true rfl)
  rw [lg_entry_eq]
  generalize (lg_sl ([.ref (gm g 0), .int a1, .int a2]) ++ List.replicate (3 - (lg_sl ([.ref (gm g 0), .int a1, .int a2])).length) Slot.unset).toArray = ls at hl ⊢
  have hl : lv_has ls 3 [(0, .ref (gm g 0)), (1, .int a1), (2, .int a2)] := hl
  unfold fX7_lay at hf
  refine lv_aload_n hx hb dX7_lay_0 rfl (lv_at hl 0 rfl) ?_
  refine va_get (D := g.1) (ci := 5) (v := .ref (gm g 1)) (C := RX7) (T := TX7) (N := 27) hx hb hts iwX7 hown hK hP 0 k_md rfl 0 (by decide) hw0 (fun _ h9 => h9) rfl dX7_lay_1 ?_
  refine lv_bipush (v := (49 : Int32)) hx hb dX7_lay_4 (by decide) ?_
  refine lv_iload_n hx hb dX7_lay_6 rfl (lv_at hl 1 rfl) ?_
  refine lv_iadd hx hb dX7_lay_7 ?_
  refine lv_iload_n hx hb dX7_lay_8 rfl (lv_at hl 2 rfl) ?_
  refine lv_if_ne (tgt := 24) hx hb dX7_lay_9 (by decide) (fun hc1 => ?_) (fun hc1 => ?_)
  · have hf := (if_neg hc1).symm.trans hf
    refine lv_iconst (v := (0 : Int32)) hx hb dX7_lay_24 (by decide) ?_
    obtain ⟨hg2, hf⟩ := gd_some hf
    refine va_iast (f := m_now) hx hb hK hP (mD hB.2.2.1 _) hS 1 0 k_now rfl hg2 dX7_lay_25 (fun H locs hP _ hS => ?_)
    have hP : va_P g.1 vwCl (mw g ((upd m_now ((49 : Int32) + a1).toNatClampNeg (0 : Int32)), m_kept, m_aside, m_isKept, m_found, m_steps, m_queue, m_lives, m_treads, m_tape, m_taped, m_begins, m_ends, m_sort, m_value, m_isWrong, m_items, m_itemMany, m_seedThen, m_groundThen, m_widths, m_sizes, m_numbers, m_moved)) H := w_eq (k_set_now (upd m_now ((49 : Int32) + a1).toNatClampNeg (0 : Int32))) hP
    refine lv_aload_n hx hb dX7_lay_26 rfl (lv_at hl 0 rfl) ?_
    refine lv_bipush (v := (13 : Int32)) hx hb dX7_lay_27 (by decide) ?_
    refine lv_iload_n hx hb dX7_lay_29 rfl (lv_at hl 1 rfl) ?_
    refine lv_iadd hx hb dX7_lay_30 ?_
    refine lv_iload_n hx hb dX7_lay_31 rfl (lv_at hl 2 rfl) ?_
    obtain ⟨q3, hq3, hf⟩ := bd_some hf
    refine kr_W (st1 := [.int q3.1]) (va_runV (As := [.int ((13 : Int32) + a1), .int a2]) (rest := []) ⟨hx, hb, hml, hown, hts⟩ (ct_X7_become l n g (upd m_now ((49 : Int32) + a1).toNatClampNeg (0 : Int32)) m_kept m_aside m_isKept m_found m_steps m_queue m_lives m_treads m_tape m_taped m_begins m_ends m_sort m_value m_isWrong m_items m_itemMany m_seedThen m_groundThen m_widths m_sizes m_numbers m_moved ((13 : Int32) + a1) a2 q3 hq3) (cwV 2 hts gX7_lay_X7_become rfl rfl rfl hd_X7_become ⟨Nat.le_of_ble_eq_true rfl, Nat.le_of_ble_eq_true rfl⟩) ⟨bl_M, va_recv hK hP (ci := 5) (q0 := 0) rfl k_md, pr_M rfl hB hP hS⟩ rfl rfl hl.1 rfl (lv_room (Nat.le_of_ble_eq_true rfl)) dX7_lay_32 ⟨Nat.le_refl _, Nat.le_refl _⟩) hS rfl (fun hn4 H locs hP hS => ?_)
    have hP : va_P g.1 vwCl (mw g (q3.2, m_kept, m_aside, m_isKept, m_found, m_steps, m_queue, m_lives, m_treads, m_tape, m_taped, m_begins, m_ends, m_sort, m_value, m_isWrong, m_items, m_itemMany, m_seedThen, m_groundThen, m_widths, m_sizes, m_numbers, m_moved)) H := hP
    have hres : (q3.1, q3.2) = res := (Option.some.inj hf)
    have hP := w_eq (congrArg (fun z => mw g (z.2, m_kept, m_aside, m_isKept, m_found, m_steps, m_queue, m_lives, m_treads, m_tape, m_taped, m_begins, m_ends, m_sort, m_value, m_isWrong, m_items, m_itemMany, m_seedThen, m_groundThen, m_widths, m_sizes, m_numbers, m_moved)) hres) hP
    exact W.iret (v := q3.1) hx hb hr (fun t ht hW => ⟨congrArg (fun z => Outcome.returned (some (Value.int z.1))) hres, trivial, by rw [ht]; exact hP, hS.F ht⟩) hS.2.2 dX7_lay_35
  · have hf := (if_pos hc1).symm.trans hf
    refine lv_aload_n hx hb dX7_lay_12 rfl (lv_at hl 0 rfl) ?_
    refine va_get (D := g.1) (ci := 5) (v := .ref (gm g 1)) (C := RX7) (T := TX7) (N := 27) hx hb hts iwX7 hown hK hP 0 k_md rfl 0 (by decide) hw0 (fun _ h9 => h9) rfl dX7_lay_13 ?_
    refine lv_bipush (v := (49 : Int32)) hx hb dX7_lay_16 (by decide) ?_
    refine lv_iload_n hx hb dX7_lay_18 rfl (lv_at hl 1 rfl) ?_
    refine lv_iadd hx hb dX7_lay_19 ?_
    obtain ⟨hg5, hf⟩ := gd_some hf
    refine va_iald (f := m_now) hx hb hK hP 1 0 k_now rfl hg5 dX7_lay_20 ?_
    refine lv_goto (tgt := 25) hx hb dX7_lay_21 (by decide) ?_
    obtain ⟨hg6, hf⟩ := gd_some hf
    refine va_iast (f := m_now) hx hb hK hP (mD hB.2.2.1 _) hS 1 0 k_now rfl hg6 dX7_lay_25 (fun H locs hP _ hS => ?_)
    have hP : va_P g.1 vwCl (mw g ((upd m_now ((49 : Int32) + a1).toNatClampNeg (m_now ((49 : Int32) + a1).toNatClampNeg)), m_kept, m_aside, m_isKept, m_found, m_steps, m_queue, m_lives, m_treads, m_tape, m_taped, m_begins, m_ends, m_sort, m_value, m_isWrong, m_items, m_itemMany, m_seedThen, m_groundThen, m_widths, m_sizes, m_numbers, m_moved)) H := w_eq (k_set_now (upd m_now ((49 : Int32) + a1).toNatClampNeg (m_now ((49 : Int32) + a1).toNatClampNeg))) hP
    refine lv_aload_n hx hb dX7_lay_26 rfl (lv_at hl 0 rfl) ?_
    refine lv_bipush (v := (13 : Int32)) hx hb dX7_lay_27 (by decide) ?_
    refine lv_iload_n hx hb dX7_lay_29 rfl (lv_at hl 1 rfl) ?_
    refine lv_iadd hx hb dX7_lay_30 ?_
    refine lv_iload_n hx hb dX7_lay_31 rfl (lv_at hl 2 rfl) ?_
    obtain ⟨q7, hq7, hf⟩ := bd_some hf
    refine kr_W (st1 := [.int q7.1]) (va_runV (As := [.int ((13 : Int32) + a1), .int a2]) (rest := []) ⟨hx, hb, hml, hown, hts⟩ (ct_X7_become l n g (upd m_now ((49 : Int32) + a1).toNatClampNeg (m_now ((49 : Int32) + a1).toNatClampNeg)) m_kept m_aside m_isKept m_found m_steps m_queue m_lives m_treads m_tape m_taped m_begins m_ends m_sort m_value m_isWrong m_items m_itemMany m_seedThen m_groundThen m_widths m_sizes m_numbers m_moved ((13 : Int32) + a1) a2 q7 hq7) (cwV 2 hts gX7_lay_X7_become rfl rfl rfl hd_X7_become ⟨Nat.le_of_ble_eq_true rfl, Nat.le_of_ble_eq_true rfl⟩) ⟨bl_M, va_recv hK hP (ci := 5) (q0 := 0) rfl k_md, pr_M rfl hB hP hS⟩ rfl rfl hl.1 rfl (lv_room (Nat.le_of_ble_eq_true rfl)) dX7_lay_32 ⟨Nat.le_refl _, Nat.le_refl _⟩) hS rfl (fun hn8 H locs hP hS => ?_)
    have hP : va_P g.1 vwCl (mw g (q7.2, m_kept, m_aside, m_isKept, m_found, m_steps, m_queue, m_lives, m_treads, m_tape, m_taped, m_begins, m_ends, m_sort, m_value, m_isWrong, m_items, m_itemMany, m_seedThen, m_groundThen, m_widths, m_sizes, m_numbers, m_moved)) H := hP
    have hres : (q7.1, q7.2) = res := (Option.some.inj hf)
    have hP := w_eq (congrArg (fun z => mw g (z.2, m_kept, m_aside, m_isKept, m_found, m_steps, m_queue, m_lives, m_treads, m_tape, m_taped, m_begins, m_ends, m_sort, m_value, m_isWrong, m_items, m_itemMany, m_seedThen, m_groundThen, m_widths, m_sizes, m_numbers, m_moved)) hres) hP
    exact W.iret (v := q7.1) hx hb hr (fun t ht hW => ⟨congrArg (fun z => Outcome.returned (some (Value.int z.1))) hres, trivial, by rw [ht]; exact hP, hS.F ht⟩) hS.2.2 dX7_lay_35
set_option maxHeartbeats 4000000 in
set_option maxRecDepth 100000 in
theorem ct_X7_ground (l : Launch) (n : Nat) (g : GM) (m_now : Nat → Int32) (m_kept : Nat → Int32) (m_aside : Nat → Int32) (m_isKept : Int32) (m_found : Nat → Int32) (m_steps : Nat → Int32) (m_queue : Nat → Int32) (m_lives : Nat → Int32) (m_treads : Nat → Int32) (m_tape : Nat → Int32) (m_taped : Int32) (m_begins : Int32) (m_ends : Int32) (m_sort : Int32) (m_value : Int32) (m_isWrong : Int32) (m_items : Nat → Int32) (m_itemMany : Int32) (m_seedThen : Int32) (m_groundThen : Nat → Int32) (m_widths : Nat → Int32) (m_sizes : Nat → Int32) (m_numbers : Nat → Int32) (m_moved : Nat → Int32) (a1 : Int32) (a2 : Int32) (res : Int32 × (Nat → Int32) × (Nat → Int32)) (hf : fX7_ground n a1 a2 m_now m_found = some res) : Met l yX7_ground wsX7_ground ({ frames := 2, cells := 0, slots := 0, locals := 45 }) (va_Pc [.ref (gm g 0), .int a1, .int a2] (mI g (m_now, m_kept, m_aside, m_isKept, m_found, m_steps, m_queue, m_lives, m_treads, m_tape, m_taped, m_begins, m_ends, m_sort, m_value, m_isWrong, m_items, m_itemMany, m_seedThen, m_groundThen, m_widths, m_sizes, m_numbers, m_moved))) (qW (some (.int res.1)) True g.1 (mw g (res.2.1, m_kept, m_aside, m_isKept, res.2.2, m_steps, m_queue, m_lives, m_treads, m_tape, m_taped, m_begins, m_ends, m_sort, m_value, m_isWrong, m_items, m_itemMany, m_seedThen, m_groundThen, m_widths, m_sizes, m_numbers, m_moved)) (mA g)) 0 0 (mA g) := by
  refine Met.ofW (cc := cX7_ground) (maxL := 3) (ret := (some .int)) (by decide) rfl ?_
  intro p e s m args below meth c s₁ B hml hv
  obtain ⟨rfl, hI⟩ := hv
  have hx := B.exec
  have hb := B.bytes
  have hr := B.returns
  have hts := atoms_spec (ws := wsX7_ground) B.pre
  have hown : s.vm.findClass RX7 = some m.cls := findClass_of_methodNamed B.named
  have hlocks := B.notSynchronized
  have hP := hI.1
  have hB := hI.2
  have hK := hB.1
  have hNW := hB.2.1
  have hS : va_S (mA g) s.heap s.heap [] := va_S.rf
  have hw0 := hts (.constant RX7 95 (-1000001)) (by decide +kernel)
  have hl := lv_entry ([.ref (gm g 0), .int a1, .int a2]) (n := 3) (Nat.le_of_ble_eq_true rfl)
  rw [lg_entry_eq]
  generalize (lg_sl ([.ref (gm g 0), .int a1, .int a2]) ++ List.replicate (3 - (lg_sl ([.ref (gm g 0), .int a1, .int a2])).length) Slot.unset).toArray = ls at hl ⊢
  have hl : lv_has ls 3 [(0, .ref (gm g 0)), (1, .int a1), (2, .int a2)] := hl
  unfold fX7_ground at hf
  refine lv_iload_n hx hb dX7_ground_0 rfl (lv_at hl 1 rfl) ?_
  obtain ⟨q1, hq1, hf⟩ := bd_some hf
  refine kr_S (st1 := [.int q1]) (va_runS (As := [.int a1]) (rest := []) ⟨hx, hb, hml, hown, hts⟩ (ct_X7_isCell l n a1 q1 hq1) (va_cwS 1 hts gX7_ground_X7_isCell rfl rfl rfl hn_X7_isCell ⟨Nat.le_of_ble_eq_true rfl, Nat.le_of_ble_eq_true rfl⟩) ⟨bl_N, pr_N rfl hNW⟩ rfl rfl hl.1 rfl (lv_room (Nat.le_of_ble_eq_true rfl)) dX7_ground_1 ⟨Nat.le_refl _, Nat.le_refl _⟩) rfl (fun hn2 => ?_)
  refine lv_if_eq (tgt := 25) hx hb dX7_ground_4 (by decide) (fun hc3 => ?_) (fun hc3 => ?_)
  · have hf := (if_pos hc3).symm.trans hf
    refine lv_aload_n hx hb dX7_ground_25 rfl (lv_at hl 0 rfl) ?_
    refine lv_ldc (v := (-1000001 : Int32)) hx hb hown hw0 dX7_ground_26 ?_
    obtain ⟨q4, hq4, hf⟩ := bd_some hf
    refine kr_W (st1 := [.int q4.1]) (va_runV (As := [.int (-1000001 : Int32)]) (rest := []) ⟨hx, hb, hml, hown, hts⟩ (ct_X7_finding l n g m_now m_kept m_aside m_isKept m_found m_steps m_queue m_lives m_treads m_tape m_taped m_begins m_ends m_sort m_value m_isWrong m_items m_itemMany m_seedThen m_groundThen m_widths m_sizes m_numbers m_moved (-1000001 : Int32) q4 hq4) (cwV 1 hts gX7_ground_X7_finding rfl rfl rfl hd_X7_finding ⟨Nat.le_of_ble_eq_true rfl, Nat.le_of_ble_eq_true rfl⟩) ⟨bl_M, va_recv hK hP (ci := 5) (q0 := 0) rfl k_md, pr_M rfl hB hP hS⟩ rfl rfl hl.1 rfl (lv_room (Nat.le_of_ble_eq_true rfl)) dX7_ground_28 ⟨Nat.le_refl _, Nat.le_refl _⟩) hS rfl (fun hn5 H locs hP hS => ?_)
    have hP : va_P g.1 vwCl (mw g (m_now, m_kept, m_aside, m_isKept, q4.2, m_steps, m_queue, m_lives, m_treads, m_tape, m_taped, m_begins, m_ends, m_sort, m_value, m_isWrong, m_items, m_itemMany, m_seedThen, m_groundThen, m_widths, m_sizes, m_numbers, m_moved)) H := hP
    have hres : (q4.1, m_now, q4.2) = res := (Option.some.inj hf)
    have hP := w_eq (congrArg (fun z => mw g (z.2.1, m_kept, m_aside, m_isKept, z.2.2, m_steps, m_queue, m_lives, m_treads, m_tape, m_taped, m_begins, m_ends, m_sort, m_value, m_isWrong, m_items, m_itemMany, m_seedThen, m_groundThen, m_widths, m_sizes, m_numbers, m_moved)) hres) hP
    exact W.iret (v := q4.1) hx hb hr (fun t ht hW => ⟨congrArg (fun z => Outcome.returned (some (Value.int z.1))) hres, trivial, by rw [ht]; exact hP, hS.F ht⟩) hS.2.2 dX7_ground_31
  · have hf := (if_neg hc3).symm.trans hf
    refine lv_iload_n hx hb dX7_ground_7 rfl (lv_at hl 2 rfl) ?_
    refine lv_iconst (v := (0 : Int32)) hx hb dX7_ground_8 (by decide) ?_
    refine lv_iconst (v := (2 : Int32)) hx hb dX7_ground_9 (by decide) ?_
    obtain ⟨q6, hq6, hf⟩ := bd_some hf
    refine kr_S (st1 := [.int q6]) (va_runS (As := [.int a2, .int (0 : Int32), .int (2 : Int32)]) (rest := []) ⟨hx, hb, hml, hown, hts⟩ (ct_X7_within l n a2 (0 : Int32) (2 : Int32) q6 hq6) (va_cwS 3 hts gX7_ground_X7_within rfl rfl rfl hn_X7_within ⟨Nat.le_of_ble_eq_true rfl, Nat.le_of_ble_eq_true rfl⟩) ⟨bl_N, pr_N rfl hNW⟩ rfl rfl hl.1 rfl (lv_room (Nat.le_of_ble_eq_true rfl)) dX7_ground_10 ⟨Nat.le_refl _, Nat.le_refl _⟩) rfl (fun hn7 => ?_)
    refine lv_if_eq (tgt := 25) hx hb dX7_ground_13 (by decide) (fun hc8 => ?_) (fun hc8 => ?_)
    · have hf := (if_pos hc8).symm.trans hf
      refine lv_aload_n hx hb dX7_ground_25 rfl (lv_at hl 0 rfl) ?_
      refine lv_ldc (v := (-1000001 : Int32)) hx hb hown hw0 dX7_ground_26 ?_
      obtain ⟨q9, hq9, hf⟩ := bd_some hf
      refine kr_W (st1 := [.int q9.1]) (va_runV (As := [.int (-1000001 : Int32)]) (rest := []) ⟨hx, hb, hml, hown, hts⟩ (ct_X7_finding l n g m_now m_kept m_aside m_isKept m_found m_steps m_queue m_lives m_treads m_tape m_taped m_begins m_ends m_sort m_value m_isWrong m_items m_itemMany m_seedThen m_groundThen m_widths m_sizes m_numbers m_moved (-1000001 : Int32) q9 hq9) (cwV 1 hts gX7_ground_X7_finding rfl rfl rfl hd_X7_finding ⟨Nat.le_of_ble_eq_true rfl, Nat.le_of_ble_eq_true rfl⟩) ⟨bl_M, va_recv hK hP (ci := 5) (q0 := 0) rfl k_md, pr_M rfl hB hP hS⟩ rfl rfl hl.1 rfl (lv_room (Nat.le_of_ble_eq_true rfl)) dX7_ground_28 ⟨Nat.le_refl _, Nat.le_refl _⟩) hS rfl (fun hn10 H locs hP hS => ?_)
      have hP : va_P g.1 vwCl (mw g (m_now, m_kept, m_aside, m_isKept, q9.2, m_steps, m_queue, m_lives, m_treads, m_tape, m_taped, m_begins, m_ends, m_sort, m_value, m_isWrong, m_items, m_itemMany, m_seedThen, m_groundThen, m_widths, m_sizes, m_numbers, m_moved)) H := hP
      have hres : (q9.1, m_now, q9.2) = res := (Option.some.inj hf)
      have hP := w_eq (congrArg (fun z => mw g (z.2.1, m_kept, m_aside, m_isKept, z.2.2, m_steps, m_queue, m_lives, m_treads, m_tape, m_taped, m_begins, m_ends, m_sort, m_value, m_isWrong, m_items, m_itemMany, m_seedThen, m_groundThen, m_widths, m_sizes, m_numbers, m_moved)) hres) hP
      exact W.iret (v := q9.1) hx hb hr (fun t ht hW => ⟨congrArg (fun z => Outcome.returned (some (Value.int z.1))) hres, trivial, by rw [ht]; exact hP, hS.F ht⟩) hS.2.2 dX7_ground_31
    · have hf := (if_neg hc8).symm.trans hf
      refine lv_aload_n hx hb dX7_ground_16 rfl (lv_at hl 0 rfl) ?_
      refine lv_iload_n hx hb dX7_ground_17 rfl (lv_at hl 1 rfl) ?_
      refine lv_iload_n hx hb dX7_ground_18 rfl (lv_at hl 2 rfl) ?_
      obtain ⟨q11, hq11, hf⟩ := bd_some hf
      refine kr_W (st1 := [.int q11.1]) (va_runV (As := [.int a1, .int a2]) (rest := []) ⟨hx, hb, hml, hown, hts⟩ (ct_X7_lay l n g m_now m_kept m_aside m_isKept m_found m_steps m_queue m_lives m_treads m_tape m_taped m_begins m_ends m_sort m_value m_isWrong m_items m_itemMany m_seedThen m_groundThen m_widths m_sizes m_numbers m_moved a1 a2 q11 hq11) (cwV 2 hts gX7_ground_X7_lay rfl rfl rfl hd_X7_lay ⟨Nat.le_of_ble_eq_true rfl, Nat.le_of_ble_eq_true rfl⟩) ⟨bl_M, va_recv hK hP (ci := 5) (q0 := 0) rfl k_md, pr_M rfl hB hP hS⟩ rfl rfl hl.1 rfl (lv_room (Nat.le_of_ble_eq_true rfl)) dX7_ground_19 ⟨Nat.le_refl _, Nat.le_refl _⟩) hS rfl (fun hn12 H locs hP hS => ?_)
      have hP : va_P g.1 vwCl (mw g (q11.2, m_kept, m_aside, m_isKept, m_found, m_steps, m_queue, m_lives, m_treads, m_tape, m_taped, m_begins, m_ends, m_sort, m_value, m_isWrong, m_items, m_itemMany, m_seedThen, m_groundThen, m_widths, m_sizes, m_numbers, m_moved)) H := hP
      refine lv_goto (tgt := 31) hx hb dX7_ground_22 (by decide) ?_
      have hres : (q11.1, q11.2, m_found) = res := (Option.some.inj hf)
      have hP := w_eq (congrArg (fun z => mw g (z.2.1, m_kept, m_aside, m_isKept, z.2.2, m_steps, m_queue, m_lives, m_treads, m_tape, m_taped, m_begins, m_ends, m_sort, m_value, m_isWrong, m_items, m_itemMany, m_seedThen, m_groundThen, m_widths, m_sizes, m_numbers, m_moved)) hres) hP
      exact W.iret (v := q11.1) hx hb hr (fun t ht hW => ⟨congrArg (fun z => Outcome.returned (some (Value.int z.1))) hres, trivial, by rw [ht]; exact hP, hS.F ht⟩) hS.2.2 dX7_ground_31
set_option maxHeartbeats 4000000 in
set_option maxRecDepth 100000 in
theorem ct_X7_pathsBeside (l : Launch) (n : Nat) (g : GM) (m_now : Nat → Int32) (m_kept : Nat → Int32) (m_aside : Nat → Int32) (m_isKept : Int32) (m_found : Nat → Int32) (m_steps : Nat → Int32) (m_queue : Nat → Int32) (m_lives : Nat → Int32) (m_treads : Nat → Int32) (m_tape : Nat → Int32) (m_taped : Int32) (m_begins : Int32) (m_ends : Int32) (m_sort : Int32) (m_value : Int32) (m_isWrong : Int32) (m_items : Nat → Int32) (m_itemMany : Int32) (m_seedThen : Int32) (m_groundThen : Nat → Int32) (m_widths : Nat → Int32) (m_sizes : Nat → Int32) (m_numbers : Nat → Int32) (m_moved : Nat → Int32) (a1 : Int32) (res : Int32) (hf : fX7_pathsBeside n a1 m_now = some res) : Met l yX7_pathsBeside wsX7_pathsBeside ({ frames := 1, cells := 0, slots := 0, locals := 21 }) (va_Pc [.ref (gm g 0), .int a1] (mI g (m_now, m_kept, m_aside, m_isKept, m_found, m_steps, m_queue, m_lives, m_treads, m_tape, m_taped, m_begins, m_ends, m_sort, m_value, m_isWrong, m_items, m_itemMany, m_seedThen, m_groundThen, m_widths, m_sizes, m_numbers, m_moved))) (qS (some (.int res)) True) 0 0 (fun _ => False) := by
  refine Met.ofW (cc := cX7_pathsBeside) (maxL := 4) (ret := (some .int)) (by decide) rfl ?_
  intro p e s m args below meth c s₁ B hml hv
  obtain ⟨rfl, hI⟩ := hv
  have hx := B.exec
  have hb := B.bytes
  have hr := B.returns
  have hts := atoms_spec (ws := wsX7_pathsBeside) B.pre
  have hown : s.vm.findClass RX7 = some m.cls := findClass_of_methodNamed B.named
  have hlocks := B.notSynchronized
  have hP := hI.1
  have hB := hI.2
  have hK := hB.1
  have hNW := hB.2.1
  have hS : va_S (mA g) s.heap s.heap [] := va_S.rf
  have hl := lv_entry ([.ref (gm g 0), .int a1]) (n := 4) (Nat.le_of_ble_eq_true rfl)
  rw [lg_entry_eq]
  generalize (lg_sl ([.ref (gm g 0), .int a1]) ++ List.replicate (4 - (lg_sl ([.ref (gm g 0), .int a1])).length) Slot.unset).toArray = ls at hl ⊢
  have hl : lv_has ls 4 [(0, .ref (gm g 0)), (1, .int a1)] := hl
  unfold fX7_pathsBeside at hf
  refine lv_iconst (v := (0 : Int32)) hx hb dX7_pathsBeside_0 (by decide) ?_
  refine lv_istore_n (lv' := [(2, .int (0 : Int32)), (0, .ref (gm g 0)), (1, .int a1)]) hx hb dX7_pathsBeside_1 rfl hl (by decide) rfl (fun ls hl => ?_)
  refine lv_iconst (v := (0 : Int32)) hx hb dX7_pathsBeside_2 (by decide) ?_
  refine lv_istore_n (lv' := [(3, .int (0 : Int32)), (2, .int (0 : Int32)), (0, .ref (gm g 0)), (1, .int a1)]) hx hb dX7_pathsBeside_3 rfl hl (by decide) rfl (fun ls hl => ?_)
  refine lp_run hf (fun s1 => ∀ (ls : Array Slot), lv_has ls 4 [(0, .ref (gm g 0)), (1, .int a1), (2, .int s1.1), (3, .int s1.2)] → W p l e (headSpec wsX7_pathsBeside ({ frames := 1, cells := 0, slots := 0, locals := 21 })).room s m ([.ref (gm g 0), .int a1] : List Value).toArray below meth c s.heap [] 0 0 (MQ below (qS (some (.int res)) True) ([.ref (gm g 0), .int a1] : List Value).toArray s 0 0 (fun _ => False)) (F0 m 4 ls [])) (fun v2 => ∀ (ls : Array Slot), lv_has ls 4 [(2, .int v2.1)] → W p l e (headSpec wsX7_pathsBeside ({ frames := 1, cells := 0, slots := 0, locals := 21 })).room s m ([.ref (gm g 0), .int a1] : List Value).toArray below meth c s.heap [] 0 0 (MQ below (qS (some (.int res)) True) ([.ref (gm g 0), .int a1] : List Value).toArray s 0 0 (fun _ => False)) (F0 m 43 ls [])) ?_ ?_ _ (lv_sub hl [2, 3, 1, 0] rfl)
  · intro v2 hf ls hl
    refine lv_iload_n hx hb dX7_pathsBeside_43 rfl (lv_at hl 0 rfl) ?_
    have hres : v2.1 = res := (Option.some.inj hf)
    exact W.iret (v := v2.1) hx hb hr (fun t ht hW => ⟨congrArg (fun z => Outcome.returned (some (Value.int z))) hres, trivial, ht⟩) t_nil dX7_pathsBeside_44
  · intro s1 r1 hf hback1 hexit1 ls hl
    refine lv_iload_n hx hb dX7_pathsBeside_4 rfl (lv_at hl 3 rfl) ?_
    refine lv_iconst (v := (4 : Int32)) hx hb dX7_pathsBeside_5 (by decide) ?_
    refine lv_icmp_ge (tgt := 43) hx hb dX7_pathsBeside_6 (by decide) (fun hc3 => ?_) (fun hc3 => ?_)
    · have hf := (if_pos hc3).symm.trans hf
      exact hexit1 (s1.1, s1.2) (Option.some.inj hf).symm ls (lv_sub hl [2] rfl)
    · have hf := (if_neg hc3).symm.trans hf
      refine lv_iload_n hx hb dX7_pathsBeside_9 rfl (lv_at hl 2 rfl) ?_
      refine lv_iload_n hx hb dX7_pathsBeside_10 rfl (lv_at hl 1 rfl) ?_
      refine lv_iload_n hx hb dX7_pathsBeside_11 rfl (lv_at hl 3 rfl) ?_
      obtain ⟨q4, hq4, hf⟩ := bd_some hf
      refine kr_S (st1 := [.int q4, .int s1.1]) (va_runS (As := [.int a1, .int s1.2]) (rest := [.int s1.1]) ⟨hx, hb, hml, hown, hts⟩ (ct_X7_beside l n a1 s1.2 q4 hq4) (va_cwS 2 hts gX7_pathsBeside_X7_beside rfl rfl rfl hn_X7_beside ⟨Nat.le_of_ble_eq_true rfl, Nat.le_of_ble_eq_true rfl⟩) ⟨bl_N, pr_N rfl hNW⟩ rfl rfl hl.1 rfl (lv_room (Nat.le_of_ble_eq_true rfl)) dX7_pathsBeside_12 ⟨Nat.le_refl _, Nat.le_refl _⟩) rfl (fun hn5 => ?_)
      refine lv_if_lt (tgt := 34) hx hb dX7_pathsBeside_15 (by decide) (fun hc6 => ?_) (fun hc6 => ?_)
      · have hf := (if_pos hc6).symm.trans hf
        refine lv_iconst (v := (0 : Int32)) hx hb dX7_pathsBeside_34 (by decide) ?_
        refine lv_iadd hx hb dX7_pathsBeside_35 ?_
        refine lv_istore_n (lv' := [(2, .int (s1.1 + (0 : Int32))), (0, .ref (gm g 0)), (1, .int a1), (3, .int s1.2)]) hx hb dX7_pathsBeside_36 rfl hl (by decide) rfl (fun ls hl => ?_)
        refine lv_iinc (v := (s1.2 + (1 : Int32))) (lv' := [(3, .int (s1.2 + (1 : Int32))), (2, .int (s1.1 + (0 : Int32))), (0, .ref (gm g 0)), (1, .int a1)]) hx hb dX7_pathsBeside_37 hl (k := 3) rfl (congrArg (fun y => s1.2 + y) (by decide : Int32.ofInt (1) = (1 : Int32))) (by decide) rfl (fun ls hl => ?_)
        refine lv_goto (tgt := 4) hx hb dX7_pathsBeside_40 (by decide) ?_
        exact hback1 _ (Option.some.inj hf).symm ls (lv_sub hl [2, 3, 1, 0] rfl)
      · have hf := (if_neg hc6).symm.trans hf
        refine lv_aload_n hx hb dX7_pathsBeside_18 rfl (lv_at hl 0 rfl) ?_
        refine lv_iload_n hx hb dX7_pathsBeside_19 rfl (lv_at hl 1 rfl) ?_
        refine lv_iload_n hx hb dX7_pathsBeside_20 rfl (lv_at hl 3 rfl) ?_
        obtain ⟨q7, hq7, hf⟩ := bd_some hf
        refine kr_S (st1 := [.int q7, .ref (gm g 0), .int s1.1]) (va_runS (As := [.int a1, .int s1.2]) (rest := [.ref (gm g 0), .int s1.1]) ⟨hx, hb, hml, hown, hts⟩ (ct_X7_beside l n a1 s1.2 q7 hq7) (va_cwS 2 hts gX7_pathsBeside_X7_beside rfl rfl rfl hn_X7_beside ⟨Nat.le_of_ble_eq_true rfl, Nat.le_of_ble_eq_true rfl⟩) ⟨bl_N, pr_N rfl hNW⟩ rfl rfl hl.1 rfl (lv_room (Nat.le_of_ble_eq_true rfl)) dX7_pathsBeside_21 ⟨Nat.le_refl _, Nat.le_refl _⟩) rfl (fun hn8 => ?_)
        obtain ⟨q9, hq9, hf⟩ := bd_some hf
        refine kr_S (st1 := [.int q9, .int s1.1]) (va_runV (As := [.int q7]) (rest := [.int s1.1]) ⟨hx, hb, hml, hown, hts⟩ (ct_X7_hasPath l n g m_now m_kept m_aside m_isKept m_found m_steps m_queue m_lives m_treads m_tape m_taped m_begins m_ends m_sort m_value m_isWrong m_items m_itemMany m_seedThen m_groundThen m_widths m_sizes m_numbers m_moved q7 q9 hq9) (cwV 1 hts gX7_pathsBeside_X7_hasPath rfl rfl rfl hd_X7_hasPath ⟨Nat.le_of_ble_eq_true rfl, Nat.le_of_ble_eq_true rfl⟩) ⟨bl_M, va_recv hK hP (ci := 5) (q0 := 0) rfl k_md, pr_M rfl hB hP hS⟩ rfl rfl hl.1 rfl (lv_room (Nat.le_of_ble_eq_true rfl)) dX7_pathsBeside_24 ⟨Nat.le_refl _, Nat.le_refl _⟩) rfl (fun hn10 => ?_)
        refine lv_if_eq (tgt := 34) hx hb dX7_pathsBeside_27 (by decide) (fun hc11 => ?_) (fun hc11 => ?_)
        · have hf := (if_pos hc11).symm.trans hf
          refine lv_iconst (v := (0 : Int32)) hx hb dX7_pathsBeside_34 (by decide) ?_
          refine lv_iadd hx hb dX7_pathsBeside_35 ?_
          refine lv_istore_n (lv' := [(2, .int (s1.1 + (0 : Int32))), (0, .ref (gm g 0)), (1, .int a1), (3, .int s1.2)]) hx hb dX7_pathsBeside_36 rfl hl (by decide) rfl (fun ls hl => ?_)
          refine lv_iinc (v := (s1.2 + (1 : Int32))) (lv' := [(3, .int (s1.2 + (1 : Int32))), (2, .int (s1.1 + (0 : Int32))), (0, .ref (gm g 0)), (1, .int a1)]) hx hb dX7_pathsBeside_37 hl (k := 3) rfl (congrArg (fun y => s1.2 + y) (by decide : Int32.ofInt (1) = (1 : Int32))) (by decide) rfl (fun ls hl => ?_)
          refine lv_goto (tgt := 4) hx hb dX7_pathsBeside_40 (by decide) ?_
          exact hback1 _ (Option.some.inj hf).symm ls (lv_sub hl [2, 3, 1, 0] rfl)
        · have hf := (if_neg hc11).symm.trans hf
          refine lv_iconst (v := (1 : Int32)) hx hb dX7_pathsBeside_30 (by decide) ?_
          refine lv_goto (tgt := 35) hx hb dX7_pathsBeside_31 (by decide) ?_
          refine lv_iadd hx hb dX7_pathsBeside_35 ?_
          refine lv_istore_n (lv' := [(2, .int (s1.1 + (1 : Int32))), (0, .ref (gm g 0)), (1, .int a1), (3, .int s1.2)]) hx hb dX7_pathsBeside_36 rfl hl (by decide) rfl (fun ls hl => ?_)
          refine lv_iinc (v := (s1.2 + (1 : Int32))) (lv' := [(3, .int (s1.2 + (1 : Int32))), (2, .int (s1.1 + (1 : Int32))), (0, .ref (gm g 0)), (1, .int a1)]) hx hb dX7_pathsBeside_37 hl (k := 3) rfl (congrArg (fun y => s1.2 + y) (by decide : Int32.ofInt (1) = (1 : Int32))) (by decide) rfl (fun ls hl => ?_)
          refine lv_goto (tgt := 4) hx hb dX7_pathsBeside_40 (by decide) ?_
          exact hback1 _ (Option.some.inj hf).symm ls (lv_sub hl [2, 3, 1, 0] rfl)
set_option maxHeartbeats 4000000 in
set_option maxRecDepth 100000 in
theorem ct_X7_headsOn (l : Launch) (n : Nat) (g : GM) (m_now : Nat → Int32) (m_kept : Nat → Int32) (m_aside : Nat → Int32) (m_isKept : Int32) (m_found : Nat → Int32) (m_steps : Nat → Int32) (m_queue : Nat → Int32) (m_lives : Nat → Int32) (m_treads : Nat → Int32) (m_tape : Nat → Int32) (m_taped : Int32) (m_begins : Int32) (m_ends : Int32) (m_sort : Int32) (m_value : Int32) (m_isWrong : Int32) (m_items : Nat → Int32) (m_itemMany : Int32) (m_seedThen : Int32) (m_groundThen : Nat → Int32) (m_widths : Nat → Int32) (m_sizes : Nat → Int32) (m_numbers : Nat → Int32) (m_moved : Nat → Int32) (a1 : Int32) (res : Int32) (hf : fX7_headsOn n a1 m_now = some res) : Met l yX7_headsOn wsX7_headsOn ({ frames := 2, cells := 0, slots := 0, locals := 43 }) (va_Pc [.ref (gm g 0), .int a1] (mI g (m_now, m_kept, m_aside, m_isKept, m_found, m_steps, m_queue, m_lives, m_treads, m_tape, m_taped, m_begins, m_ends, m_sort, m_value, m_isWrong, m_items, m_itemMany, m_seedThen, m_groundThen, m_widths, m_sizes, m_numbers, m_moved))) (qS (some (.int res)) True) 0 0 (fun _ => False) := by
  refine Met.ofW (cc := cX7_headsOn) (maxL := 4) (ret := (some .int)) (by decide) rfl ?_
  intro p e s m args below meth c s₁ B hml hv
  obtain ⟨rfl, hI⟩ := hv
  have hx := B.exec
  have hb := B.bytes
  have hr := B.returns
  have hts := atoms_spec (ws := wsX7_headsOn) B.pre
  have hown : s.vm.findClass RX7 = some m.cls := findClass_of_methodNamed B.named
  have hlocks := B.notSynchronized
  have hP := hI.1
  have hB := hI.2
  have hK := hB.1
  have hNW := hB.2.1
  have hS : va_S (mA g) s.heap s.heap [] := va_S.rf
  have hw0 := hts (.fieldLink RX7 9 "SownPathsModel" "now" "[I") (by decide +kernel)
  have iwX7 : ∀ w ∈ wsX70, w ∈ wsX7_headsOn := fun w h => List.mem_cons_of_mem _ (List.mem_append_right _ h)
  have hl := lv_entry ([.ref (gm g 0), .int a1]) (n := 4) (Nat.le_of_ble_eq_true rfl)
  rw [lg_entry_eq]
  generalize (lg_sl ([.ref (gm g 0), .int a1]) ++ List.replicate (4 - (lg_sl ([.ref (gm g 0), .int a1])).length) Slot.unset).toArray = ls at hl ⊢
  have hl : lv_has ls 4 [(0, .ref (gm g 0)), (1, .int a1)] := hl
  unfold fX7_headsOn at hf
  refine lv_iconst (v := (0 : Int32)) hx hb dX7_headsOn_0 (by decide) ?_
  refine lv_istore_n (lv' := [(2, .int (0 : Int32)), (0, .ref (gm g 0)), (1, .int a1)]) hx hb dX7_headsOn_1 rfl hl (by decide) rfl (fun ls hl => ?_)
  refine lv_iconst (v := (0 : Int32)) hx hb dX7_headsOn_2 (by decide) ?_
  refine lv_istore_n (lv' := [(3, .int (0 : Int32)), (2, .int (0 : Int32)), (0, .ref (gm g 0)), (1, .int a1)]) hx hb dX7_headsOn_3 rfl hl (by decide) rfl (fun ls hl => ?_)
  refine lp_run hf (fun s1 => ∀ (ls : Array Slot), lv_has ls 4 [(0, .ref (gm g 0)), (1, .int a1), (2, .int s1.1), (3, .int s1.2)] → W p l e (headSpec wsX7_headsOn ({ frames := 2, cells := 0, slots := 0, locals := 43 })).room s m ([.ref (gm g 0), .int a1] : List Value).toArray below meth c s.heap [] 0 0 (MQ below (qS (some (.int res)) True) ([.ref (gm g 0), .int a1] : List Value).toArray s 0 0 (fun _ => False)) (F0 m 4 ls [])) (fun v2 => ∀ (ls : Array Slot), lv_has ls 4 [(2, .int v2.1)] → W p l e (headSpec wsX7_headsOn ({ frames := 2, cells := 0, slots := 0, locals := 43 })).room s m ([.ref (gm g 0), .int a1] : List Value).toArray below meth c s.heap [] 0 0 (MQ below (qS (some (.int res)) True) ([.ref (gm g 0), .int a1] : List Value).toArray s 0 0 (fun _ => False)) (F0 m 40 ls [])) ?_ ?_ _ (lv_sub hl [2, 3, 1, 0] rfl)
  · intro v2 hf ls hl
    refine lv_iload_n hx hb dX7_headsOn_40 rfl (lv_at hl 0 rfl) ?_
    have hres : v2.1 = res := (Option.some.inj hf)
    exact W.iret (v := v2.1) hx hb hr (fun t ht hW => ⟨congrArg (fun z => Outcome.returned (some (Value.int z))) hres, trivial, ht⟩) t_nil dX7_headsOn_41
  · intro s1 r1 hf hback1 hexit1 ls hl
    refine lv_iload_n hx hb dX7_headsOn_4 rfl (lv_at hl 3 rfl) ?_
    refine lv_aload_n hx hb dX7_headsOn_5 rfl (lv_at hl 0 rfl) ?_
    refine va_get (D := g.1) (ci := 5) (v := .ref (gm g 1)) (C := RX7) (T := TX7) (N := 27) hx hb hts iwX7 hown hK hP 0 k_md rfl 0 (by decide) hw0 (fun _ h9 => h9) rfl dX7_headsOn_6 ?_
    refine lv_iconst (v := (1 : Int32)) hx hb dX7_headsOn_9 (by decide) ?_
    refine va_iald (f := m_now) hx hb hK hP 1 0 k_now rfl (vi_lit (by decide)) dX7_headsOn_10 ?_
    refine lv_icmp_ge (tgt := 40) hx hb dX7_headsOn_11 (by decide) (fun hc3 => ?_) (fun hc3 => ?_)
    · have hf := (if_pos hc3).symm.trans hf
      exact hexit1 (s1.1, s1.2) (Option.some.inj hf).symm ls (lv_sub hl [2] rfl)
    · have hf := (if_neg hc3).symm.trans hf
      refine lv_iload_n hx hb dX7_headsOn_14 rfl (lv_at hl 2 rfl) ?_
      refine lv_aload_n hx hb dX7_headsOn_15 rfl (lv_at hl 0 rfl) ?_
      refine lv_iload_n hx hb dX7_headsOn_16 rfl (lv_at hl 3 rfl) ?_
      refine lv_iconst (v := (1 : Int32)) hx hb dX7_headsOn_17 (by decide) ?_
      obtain ⟨q4, hq4, hf⟩ := bd_some hf
      refine kr_S (st1 := [.int q4, .int s1.1]) (va_runV (As := [.int s1.2, .int (1 : Int32)]) (rest := [.int s1.1]) ⟨hx, hb, hml, hown, hts⟩ (ct_X7_seedIs l n g m_now m_kept m_aside m_isKept m_found m_steps m_queue m_lives m_treads m_tape m_taped m_begins m_ends m_sort m_value m_isWrong m_items m_itemMany m_seedThen m_groundThen m_widths m_sizes m_numbers m_moved s1.2 (1 : Int32) q4 hq4) (cwV 2 hts gX7_headsOn_X7_seedIs rfl rfl rfl hd_X7_seedIs ⟨Nat.le_of_ble_eq_true rfl, Nat.le_of_ble_eq_true rfl⟩) ⟨bl_M, va_recv hK hP (ci := 5) (q0 := 0) rfl k_md, pr_M rfl hB hP hS⟩ rfl rfl hl.1 rfl (lv_room (Nat.le_of_ble_eq_true rfl)) dX7_headsOn_18 ⟨Nat.le_refl _, Nat.le_refl _⟩) rfl (fun hn5 => ?_)
      refine lv_iload_n hx hb dX7_headsOn_21 rfl (lv_at hl 1 rfl) ?_
      refine lv_icmp_ne (tgt := 31) hx hb dX7_headsOn_22 (by decide) (fun hc6 => ?_) (fun hc6 => ?_)
      · have hf := (if_neg hc6).symm.trans hf
        refine lv_iconst (v := (0 : Int32)) hx hb dX7_headsOn_31 (by decide) ?_
        refine lv_ior hx hb dX7_headsOn_32 ?_
        refine lv_istore_n (lv' := [(2, .int (s1.1 ||| (0 : Int32))), (0, .ref (gm g 0)), (1, .int a1), (3, .int s1.2)]) hx hb dX7_headsOn_33 rfl hl (by decide) rfl (fun ls hl => ?_)
        refine lv_iinc (v := (s1.2 + (1 : Int32))) (lv' := [(3, .int (s1.2 + (1 : Int32))), (2, .int (s1.1 ||| (0 : Int32))), (0, .ref (gm g 0)), (1, .int a1)]) hx hb dX7_headsOn_34 hl (k := 3) rfl (congrArg (fun y => s1.2 + y) (by decide : Int32.ofInt (1) = (1 : Int32))) (by decide) rfl (fun ls hl => ?_)
        refine lv_goto (tgt := 4) hx hb dX7_headsOn_37 (by decide) ?_
        exact hback1 _ (Option.some.inj hf).symm ls (lv_sub hl [2, 3, 1, 0] rfl)
      · have hf := (if_pos hc6).symm.trans hf
        refine lv_iconst (v := (1 : Int32)) hx hb dX7_headsOn_25 (by decide) ?_
        refine lv_iload_n hx hb dX7_headsOn_26 rfl (lv_at hl 3 rfl) ?_
        refine lv_ishl hx hb dX7_headsOn_27 ?_
        refine lv_goto (tgt := 32) hx hb dX7_headsOn_28 (by decide) ?_
        refine lv_ior hx hb dX7_headsOn_32 ?_
        refine lv_istore_n (lv' := [(2, .int (s1.1 ||| ((1 : Int32) <<< (s1.2 &&& 31)))), (0, .ref (gm g 0)), (1, .int a1), (3, .int s1.2)]) hx hb dX7_headsOn_33 rfl hl (by decide) rfl (fun ls hl => ?_)
        refine lv_iinc (v := (s1.2 + (1 : Int32))) (lv' := [(3, .int (s1.2 + (1 : Int32))), (2, .int (s1.1 ||| ((1 : Int32) <<< (s1.2 &&& 31)))), (0, .ref (gm g 0)), (1, .int a1)]) hx hb dX7_headsOn_34 hl (k := 3) rfl (congrArg (fun y => s1.2 + y) (by decide : Int32.ofInt (1) = (1 : Int32))) (by decide) rfl (fun ls hl => ?_)
        refine lv_goto (tgt := 4) hx hb dX7_headsOn_37 (by decide) ?_
        exact hback1 _ (Option.some.inj hf).symm ls (lv_sub hl [2, 3, 1, 0] rfl)
set_option maxHeartbeats 4000000 in
set_option maxRecDepth 100000 in
theorem ct_X7_cell (l : Launch) (n : Nat) (g : GM) (m_now : Nat → Int32) (m_kept : Nat → Int32) (m_aside : Nat → Int32) (m_isKept : Int32) (m_found : Nat → Int32) (m_steps : Nat → Int32) (m_queue : Nat → Int32) (m_lives : Nat → Int32) (m_treads : Nat → Int32) (m_tape : Nat → Int32) (m_taped : Int32) (m_begins : Int32) (m_ends : Int32) (m_sort : Int32) (m_value : Int32) (m_isWrong : Int32) (m_items : Nat → Int32) (m_itemMany : Int32) (m_seedThen : Int32) (m_groundThen : Nat → Int32) (m_widths : Nat → Int32) (m_sizes : Nat → Int32) (m_numbers : Nat → Int32) (m_moved : Nat → Int32) (a1 : Int32) (a2 : Int32) (res : Int32 × (Nat → Int32)) (hf : fX7_cell n a1 a2 m_now m_found = some res) : Met l yX7_cell wsX7_cell ({ frames := 3, cells := 0, slots := 0, locals := 66 }) (va_Pc [.ref (gm g 0), .int a1, .int a2] (mI g (m_now, m_kept, m_aside, m_isKept, m_found, m_steps, m_queue, m_lives, m_treads, m_tape, m_taped, m_begins, m_ends, m_sort, m_value, m_isWrong, m_items, m_itemMany, m_seedThen, m_groundThen, m_widths, m_sizes, m_numbers, m_moved))) (qW (some (.int res.1)) True g.1 (mw g (m_now, m_kept, m_aside, m_isKept, res.2, m_steps, m_queue, m_lives, m_treads, m_tape, m_taped, m_begins, m_ends, m_sort, m_value, m_isWrong, m_items, m_itemMany, m_seedThen, m_groundThen, m_widths, m_sizes, m_numbers, m_moved)) (mA g)) 0 0 (mA g) := by
  refine Met.ofW (cc := cX7_cell) (maxL := 3) (ret := (some .int)) (by decide) rfl ?_
  intro p e s m args below meth c s₁ B hml hv
  obtain ⟨rfl, hI⟩ := hv
  have hx := B.exec
  have hb := B.bytes
  have hr := B.returns
  have hts := atoms_spec (ws := wsX7_cell) B.pre
  have hown : s.vm.findClass RX7 = some m.cls := findClass_of_methodNamed B.named
  have hlocks := B.notSynchronized
  have hP := hI.1
  have hB := hI.2
  have hK := hB.1
  have hNW := hB.2.1
  have hS : va_S (mA g) s.heap s.heap [] := va_S.rf
  have hw0 := hts (.constant RX7 95 (-1000001)) (by decide +kernel)
  have hw1 := hts (.fieldLink RX7 9 "SownPathsModel" "now" "[I") (by decide +kernel)
  have iwX7 : ∀ w ∈ wsX70, w ∈ wsX7_cell := fun w h => List.mem_cons_of_mem _ (List.mem_append_right _ h)
  have hl := lv_entry ([.ref (gm g 0), .int a1, .int a2]) (n := 3) (Nat.le_of_ble_eq_true rfl)
  rw [lg_entry_eq]
  generalize (lg_sl ([.ref (gm g 0), .int a1, .int a2]) ++ List.replicate (3 - (lg_sl ([.ref (gm g 0), .int a1, .int a2])).length) Slot.unset).toArray = ls at hl ⊢
  have hl : lv_has ls 3 [(0, .ref (gm g 0)), (1, .int a1), (2, .int a2)] := hl
  unfold fX7_cell at hf
  refine lv_iload_n hx hb dX7_cell_0 rfl (lv_at hl 1 rfl) ?_
  obtain ⟨q1, hq1, hf⟩ := bd_some hf
  refine kr_S (st1 := [.int q1]) (va_runS (As := [.int a1]) (rest := []) ⟨hx, hb, hml, hown, hts⟩ (ct_X7_isCell l n a1 q1 hq1) (va_cwS 1 hts gX7_cell_X7_isCell rfl rfl rfl hn_X7_isCell ⟨Nat.le_of_ble_eq_true rfl, Nat.le_of_ble_eq_true rfl⟩) ⟨bl_N, pr_N rfl hNW⟩ rfl rfl hl.1 rfl (lv_room (Nat.le_of_ble_eq_true rfl)) dX7_cell_1 ⟨Nat.le_refl _, Nat.le_refl _⟩) rfl (fun hn2 => ?_)
  refine lv_if_eq (tgt := 16) hx hb dX7_cell_4 (by decide) (fun hc3 => ?_) (fun hc3 => ?_)
  · have hf := (if_pos hc3).symm.trans hf
    refine lv_aload_n hx hb dX7_cell_16 rfl (lv_at hl 0 rfl) ?_
    refine lv_ldc (v := (-1000001 : Int32)) hx hb hown hw0 dX7_cell_17 ?_
    obtain ⟨q4, hq4, hf⟩ := bd_some hf
    refine kr_W (st1 := [.int q4.1]) (va_runV (As := [.int (-1000001 : Int32)]) (rest := []) ⟨hx, hb, hml, hown, hts⟩ (ct_X7_finding l n g m_now m_kept m_aside m_isKept m_found m_steps m_queue m_lives m_treads m_tape m_taped m_begins m_ends m_sort m_value m_isWrong m_items m_itemMany m_seedThen m_groundThen m_widths m_sizes m_numbers m_moved (-1000001 : Int32) q4 hq4) (cwV 1 hts gX7_cell_X7_finding rfl rfl rfl hd_X7_finding ⟨Nat.le_of_ble_eq_true rfl, Nat.le_of_ble_eq_true rfl⟩) ⟨bl_M, va_recv hK hP (ci := 5) (q0 := 0) rfl k_md, pr_M rfl hB hP hS⟩ rfl rfl hl.1 rfl (lv_room (Nat.le_of_ble_eq_true rfl)) dX7_cell_19 ⟨Nat.le_refl _, Nat.le_refl _⟩) hS rfl (fun hn5 H locs hP hS => ?_)
    have hP : va_P g.1 vwCl (mw g (m_now, m_kept, m_aside, m_isKept, q4.2, m_steps, m_queue, m_lives, m_treads, m_tape, m_taped, m_begins, m_ends, m_sort, m_value, m_isWrong, m_items, m_itemMany, m_seedThen, m_groundThen, m_widths, m_sizes, m_numbers, m_moved)) H := hP
    have hres : (q4.1, q4.2) = res := (Option.some.inj hf)
    have hP := w_eq (congrArg (fun z => mw g (m_now, m_kept, m_aside, m_isKept, z.2, m_steps, m_queue, m_lives, m_treads, m_tape, m_taped, m_begins, m_ends, m_sort, m_value, m_isWrong, m_items, m_itemMany, m_seedThen, m_groundThen, m_widths, m_sizes, m_numbers, m_moved)) hres) hP
    exact W.iret (v := q4.1) hx hb hr (fun t ht hW => ⟨congrArg (fun z => Outcome.returned (some (Value.int z.1))) hres, trivial, by rw [ht]; exact hP, hS.F ht⟩) hS.2.2 dX7_cell_22
  · have hf := (if_neg hc3).symm.trans hf
    refine lv_iload_n hx hb dX7_cell_7 rfl (lv_at hl 2 rfl) ?_
    refine lv_iconst (v := (0 : Int32)) hx hb dX7_cell_8 (by decide) ?_
    refine lv_iconst (v := (3 : Int32)) hx hb dX7_cell_9 (by decide) ?_
    obtain ⟨q6, hq6, hf⟩ := bd_some hf
    refine kr_S (st1 := [.int q6]) (va_runS (As := [.int a2, .int (0 : Int32), .int (3 : Int32)]) (rest := []) ⟨hx, hb, hml, hown, hts⟩ (ct_X7_within l n a2 (0 : Int32) (3 : Int32) q6 hq6) (va_cwS 3 hts gX7_cell_X7_within rfl rfl rfl hn_X7_within ⟨Nat.le_of_ble_eq_true rfl, Nat.le_of_ble_eq_true rfl⟩) ⟨bl_N, pr_N rfl hNW⟩ rfl rfl hl.1 rfl (lv_room (Nat.le_of_ble_eq_true rfl)) dX7_cell_10 ⟨Nat.le_refl _, Nat.le_refl _⟩) rfl (fun hn7 => ?_)
    refine lv_if_ne (tgt := 23) hx hb dX7_cell_13 (by decide) (fun hc8 => ?_) (fun hc8 => ?_)
    · have hf := (if_neg hc8).symm.trans hf
      refine lv_iload_n hx hb dX7_cell_23 rfl (lv_at hl 2 rfl) ?_
      refine lv_if_ne (tgt := 39) hx hb dX7_cell_24 (by decide) (fun hc9 => ?_) (fun hc9 => ?_)
      · have hf := (if_neg hc9).symm.trans hf
        refine lv_iload_n hx hb dX7_cell_39 rfl (lv_at hl 2 rfl) ?_
        refine lv_iconst (v := (1 : Int32)) hx hb dX7_cell_40 (by decide) ?_
        refine lv_icmp_ne (tgt := 56) hx hb dX7_cell_41 (by decide) (fun hc10 => ?_) (fun hc10 => ?_)
        · have hf := (if_neg hc10).symm.trans hf
          refine lv_iload_n hx hb dX7_cell_56 rfl (lv_at hl 2 rfl) ?_
          refine lv_iconst (v := (2 : Int32)) hx hb dX7_cell_57 (by decide) ?_
          refine lv_icmp_ne (tgt := 69) hx hb dX7_cell_58 (by decide) (fun hc11 => ?_) (fun hc11 => ?_)
          · have hf := (if_neg hc11).symm.trans hf
            refine lv_aload_n hx hb dX7_cell_69 rfl (lv_at hl 0 rfl) ?_
            refine lv_iload_n hx hb dX7_cell_70 rfl (lv_at hl 1 rfl) ?_
            obtain ⟨q12, hq12, hf⟩ := bd_some hf
            refine kr_S (st1 := [.int q12]) (va_runV (As := [.int a1]) (rest := []) ⟨hx, hb, hml, hown, hts⟩ (ct_X7_headsOn l n g m_now m_kept m_aside m_isKept m_found m_steps m_queue m_lives m_treads m_tape m_taped m_begins m_ends m_sort m_value m_isWrong m_items m_itemMany m_seedThen m_groundThen m_widths m_sizes m_numbers m_moved a1 q12 hq12) (cwV 1 hts gX7_cell_X7_headsOn rfl rfl rfl hd_X7_headsOn ⟨Nat.le_of_ble_eq_true rfl, Nat.le_of_ble_eq_true rfl⟩) ⟨bl_M, va_recv hK hP (ci := 5) (q0 := 0) rfl k_md, pr_M rfl hB hP hS⟩ rfl rfl hl.1 rfl (lv_room (Nat.le_of_ble_eq_true rfl)) dX7_cell_71 ⟨Nat.le_refl _, Nat.le_refl _⟩) rfl (fun hn13 => ?_)
            have hres : (q12, m_found) = res := (Option.some.inj hf)
            have hP := w_eq (congrArg (fun z => mw g (m_now, m_kept, m_aside, m_isKept, z.2, m_steps, m_queue, m_lives, m_treads, m_tape, m_taped, m_begins, m_ends, m_sort, m_value, m_isWrong, m_items, m_itemMany, m_seedThen, m_groundThen, m_widths, m_sizes, m_numbers, m_moved)) hres) hP
            exact W.iret (v := q12) hx hb hr (fun t ht hW => ⟨congrArg (fun z => Outcome.returned (some (Value.int z.1))) hres, trivial, by rw [ht]; exact hP, hS.F ht⟩) hS.2.2 dX7_cell_74
          · have hf := (if_pos hc11).symm.trans hf
            refine lv_aload_n hx hb dX7_cell_61 rfl (lv_at hl 0 rfl) ?_
            refine lv_iload_n hx hb dX7_cell_62 rfl (lv_at hl 1 rfl) ?_
            obtain ⟨q14, hq14, hf⟩ := bd_some hf
            refine kr_S (st1 := [.int q14]) (va_runV (As := [.int a1]) (rest := []) ⟨hx, hb, hml, hown, hts⟩ (ct_X7_pathsBeside l n g m_now m_kept m_aside m_isKept m_found m_steps m_queue m_lives m_treads m_tape m_taped m_begins m_ends m_sort m_value m_isWrong m_items m_itemMany m_seedThen m_groundThen m_widths m_sizes m_numbers m_moved a1 q14 hq14) (cwV 1 hts gX7_cell_X7_pathsBeside rfl rfl rfl hd_X7_pathsBeside ⟨Nat.le_of_ble_eq_true rfl, Nat.le_of_ble_eq_true rfl⟩) ⟨bl_M, va_recv hK hP (ci := 5) (q0 := 0) rfl k_md, pr_M rfl hB hP hS⟩ rfl rfl hl.1 rfl (lv_room (Nat.le_of_ble_eq_true rfl)) dX7_cell_63 ⟨Nat.le_refl _, Nat.le_refl _⟩) rfl (fun hn15 => ?_)
            refine lv_goto (tgt := 74) hx hb dX7_cell_66 (by decide) ?_
            have hres : (q14, m_found) = res := (Option.some.inj hf)
            have hP := w_eq (congrArg (fun z => mw g (m_now, m_kept, m_aside, m_isKept, z.2, m_steps, m_queue, m_lives, m_treads, m_tape, m_taped, m_begins, m_ends, m_sort, m_value, m_isWrong, m_items, m_itemMany, m_seedThen, m_groundThen, m_widths, m_sizes, m_numbers, m_moved)) hres) hP
            exact W.iret (v := q14) hx hb hr (fun t ht hW => ⟨congrArg (fun z => Outcome.returned (some (Value.int z.1))) hres, trivial, by rw [ht]; exact hP, hS.F ht⟩) hS.2.2 dX7_cell_74
        · have hf := (if_pos hc10).symm.trans hf
          refine lv_aload_n hx hb dX7_cell_44 rfl (lv_at hl 0 rfl) ?_
          refine va_get (D := g.1) (ci := 5) (v := .ref (gm g 1)) (C := RX7) (T := TX7) (N := 27) hx hb hts iwX7 hown hK hP 0 k_md rfl 0 (by decide) hw1 (fun _ h9 => h9) rfl dX7_cell_45 ?_
          refine lv_bipush (v := (49 : Int32)) hx hb dX7_cell_48 (by decide) ?_
          refine lv_iload_n hx hb dX7_cell_50 rfl (lv_at hl 1 rfl) ?_
          refine lv_iadd hx hb dX7_cell_51 ?_
          obtain ⟨hg16, hf⟩ := gd_some hf
          refine va_iald (f := m_now) hx hb hK hP 1 0 k_now rfl hg16 dX7_cell_52 ?_
          refine lv_goto (tgt := 74) hx hb dX7_cell_53 (by decide) ?_
          have hres : ((m_now ((49 : Int32) + a1).toNatClampNeg), m_found) = res := (Option.some.inj hf)
          have hP := w_eq (congrArg (fun z => mw g (m_now, m_kept, m_aside, m_isKept, z.2, m_steps, m_queue, m_lives, m_treads, m_tape, m_taped, m_begins, m_ends, m_sort, m_value, m_isWrong, m_items, m_itemMany, m_seedThen, m_groundThen, m_widths, m_sizes, m_numbers, m_moved)) hres) hP
          exact W.iret (v := (m_now ((49 : Int32) + a1).toNatClampNeg)) hx hb hr (fun t ht hW => ⟨congrArg (fun z => Outcome.returned (some (Value.int z.1))) hres, trivial, by rw [ht]; exact hP, hS.F ht⟩) hS.2.2 dX7_cell_74
      · have hf := (if_pos hc9).symm.trans hf
        refine lv_aload_n hx hb dX7_cell_27 rfl (lv_at hl 0 rfl) ?_
        refine va_get (D := g.1) (ci := 5) (v := .ref (gm g 1)) (C := RX7) (T := TX7) (N := 27) hx hb hts iwX7 hown hK hP 0 k_md rfl 0 (by decide) hw1 (fun _ h9 => h9) rfl dX7_cell_28 ?_
        refine lv_bipush (v := (13 : Int32)) hx hb dX7_cell_31 (by decide) ?_
        refine lv_iload_n hx hb dX7_cell_33 rfl (lv_at hl 1 rfl) ?_
        refine lv_iadd hx hb dX7_cell_34 ?_
        obtain ⟨hg17, hf⟩ := gd_some hf
        refine va_iald (f := m_now) hx hb hK hP 1 0 k_now rfl hg17 dX7_cell_35 ?_
        refine lv_goto (tgt := 74) hx hb dX7_cell_36 (by decide) ?_
        have hres : ((m_now ((13 : Int32) + a1).toNatClampNeg), m_found) = res := (Option.some.inj hf)
        have hP := w_eq (congrArg (fun z => mw g (m_now, m_kept, m_aside, m_isKept, z.2, m_steps, m_queue, m_lives, m_treads, m_tape, m_taped, m_begins, m_ends, m_sort, m_value, m_isWrong, m_items, m_itemMany, m_seedThen, m_groundThen, m_widths, m_sizes, m_numbers, m_moved)) hres) hP
        exact W.iret (v := (m_now ((13 : Int32) + a1).toNatClampNeg)) hx hb hr (fun t ht hW => ⟨congrArg (fun z => Outcome.returned (some (Value.int z.1))) hres, trivial, by rw [ht]; exact hP, hS.F ht⟩) hS.2.2 dX7_cell_74
    · have hf := (if_pos hc8).symm.trans hf
      refine lv_aload_n hx hb dX7_cell_16 rfl (lv_at hl 0 rfl) ?_
      refine lv_ldc (v := (-1000001 : Int32)) hx hb hown hw0 dX7_cell_17 ?_
      obtain ⟨q18, hq18, hf⟩ := bd_some hf
      refine kr_W (st1 := [.int q18.1]) (va_runV (As := [.int (-1000001 : Int32)]) (rest := []) ⟨hx, hb, hml, hown, hts⟩ (ct_X7_finding l n g m_now m_kept m_aside m_isKept m_found m_steps m_queue m_lives m_treads m_tape m_taped m_begins m_ends m_sort m_value m_isWrong m_items m_itemMany m_seedThen m_groundThen m_widths m_sizes m_numbers m_moved (-1000001 : Int32) q18 hq18) (cwV 1 hts gX7_cell_X7_finding rfl rfl rfl hd_X7_finding ⟨Nat.le_of_ble_eq_true rfl, Nat.le_of_ble_eq_true rfl⟩) ⟨bl_M, va_recv hK hP (ci := 5) (q0 := 0) rfl k_md, pr_M rfl hB hP hS⟩ rfl rfl hl.1 rfl (lv_room (Nat.le_of_ble_eq_true rfl)) dX7_cell_19 ⟨Nat.le_refl _, Nat.le_refl _⟩) hS rfl (fun hn19 H locs hP hS => ?_)
      have hP : va_P g.1 vwCl (mw g (m_now, m_kept, m_aside, m_isKept, q18.2, m_steps, m_queue, m_lives, m_treads, m_tape, m_taped, m_begins, m_ends, m_sort, m_value, m_isWrong, m_items, m_itemMany, m_seedThen, m_groundThen, m_widths, m_sizes, m_numbers, m_moved)) H := hP
      have hres : (q18.1, q18.2) = res := (Option.some.inj hf)
      have hP := w_eq (congrArg (fun z => mw g (m_now, m_kept, m_aside, m_isKept, z.2, m_steps, m_queue, m_lives, m_treads, m_tape, m_taped, m_begins, m_ends, m_sort, m_value, m_isWrong, m_items, m_itemMany, m_seedThen, m_groundThen, m_widths, m_sizes, m_numbers, m_moved)) hres) hP
      exact W.iret (v := q18.1) hx hb hr (fun t ht hW => ⟨congrArg (fun z => Outcome.returned (some (Value.int z.1))) hres, trivial, by rw [ht]; exact hP, hS.F ht⟩) hS.2.2 dX7_cell_22
set_option maxHeartbeats 4000000 in
set_option maxRecDepth 100000 in
theorem ct_X7_tread (l : Launch) (n : Nat) (g : GM) (m_now : Nat → Int32) (m_kept : Nat → Int32) (m_aside : Nat → Int32) (m_isKept : Int32) (m_found : Nat → Int32) (m_steps : Nat → Int32) (m_queue : Nat → Int32) (m_lives : Nat → Int32) (m_treads : Nat → Int32) (m_tape : Nat → Int32) (m_taped : Int32) (m_begins : Int32) (m_ends : Int32) (m_sort : Int32) (m_value : Int32) (m_isWrong : Int32) (m_items : Nat → Int32) (m_itemMany : Int32) (m_seedThen : Int32) (m_groundThen : Nat → Int32) (m_widths : Nat → Int32) (m_sizes : Nat → Int32) (m_numbers : Nat → Int32) (m_moved : Nat → Int32) (a1 : Int32) (a2 : Int32) (res : Int32 × (Nat → Int32) × (Nat → Int32)) (hf : fX7_tread n a1 a2 m_now m_found = some res) : Met l yX7_tread wsX7_tread ({ frames := 2, cells := 0, slots := 0, locals := 42 }) (va_Pc [.ref (gm g 0), .int a1, .int a2] (mI g (m_now, m_kept, m_aside, m_isKept, m_found, m_steps, m_queue, m_lives, m_treads, m_tape, m_taped, m_begins, m_ends, m_sort, m_value, m_isWrong, m_items, m_itemMany, m_seedThen, m_groundThen, m_widths, m_sizes, m_numbers, m_moved))) (qW (some (.int res.1)) True g.1 (mw g (res.2.1, m_kept, m_aside, m_isKept, res.2.2, m_steps, m_queue, m_lives, m_treads, m_tape, m_taped, m_begins, m_ends, m_sort, m_value, m_isWrong, m_items, m_itemMany, m_seedThen, m_groundThen, m_widths, m_sizes, m_numbers, m_moved)) (mA g)) 0 0 (mA g) := by
  refine Met.ofW (cc := cX7_tread) (maxL := 3) (ret := (some .int)) (by decide) rfl ?_
  intro p e s m args below meth c s₁ B hml hv
  obtain ⟨rfl, hI⟩ := hv
  have hx := B.exec
  have hb := B.bytes
  have hr := B.returns
  have hts := atoms_spec (ws := wsX7_tread) B.pre
  have hown : s.vm.findClass RX7 = some m.cls := findClass_of_methodNamed B.named
  have hlocks := B.notSynchronized
  have hP := hI.1
  have hB := hI.2
  have hK := hB.1
  have hNW := hB.2.1
  have hS : va_S (mA g) s.heap s.heap [] := va_S.rf
  have hw0 := hts (.constant RX7 95 (-1000001)) (by decide +kernel)
  have hw1 := hts (.constant RX7 144 (-1000005)) (by decide +kernel)
  have hl := lv_entry ([.ref (gm g 0), .int a1, .int a2]) (n := 3) (Nat.le_of_ble_eq_true rfl)
  rw [lg_entry_eq]
  generalize (lg_sl ([.ref (gm g 0), .int a1, .int a2]) ++ List.replicate (3 - (lg_sl ([.ref (gm g 0), .int a1, .int a2])).length) Slot.unset).toArray = ls at hl ⊢
  have hl : lv_has ls 3 [(0, .ref (gm g 0)), (1, .int a1), (2, .int a2)] := hl
  unfold fX7_tread at hf
  refine lv_iload_n hx hb dX7_tread_0 rfl (lv_at hl 1 rfl) ?_
  obtain ⟨q1, hq1, hf⟩ := bd_some hf
  refine kr_S (st1 := [.int q1]) (va_runS (As := [.int a1]) (rest := []) ⟨hx, hb, hml, hown, hts⟩ (ct_X7_isCell l n a1 q1 hq1) (va_cwS 1 hts gX7_tread_X7_isCell rfl rfl rfl hn_X7_isCell ⟨Nat.le_of_ble_eq_true rfl, Nat.le_of_ble_eq_true rfl⟩) ⟨bl_N, pr_N rfl hNW⟩ rfl rfl hl.1 rfl (lv_room (Nat.le_of_ble_eq_true rfl)) dX7_tread_1 ⟨Nat.le_refl _, Nat.le_refl _⟩) rfl (fun hn2 => ?_)
  refine lv_if_eq (tgt := 14) hx hb dX7_tread_4 (by decide) (fun hc3 => ?_) (fun hc3 => ?_)
  · have hf := (if_pos hc3).symm.trans hf
    refine lv_aload_n hx hb dX7_tread_14 rfl (lv_at hl 0 rfl) ?_
    refine lv_ldc (v := (-1000001 : Int32)) hx hb hown hw0 dX7_tread_15 ?_
    obtain ⟨q4, hq4, hf⟩ := bd_some hf
    refine kr_W (st1 := [.int q4.1]) (va_runV (As := [.int (-1000001 : Int32)]) (rest := []) ⟨hx, hb, hml, hown, hts⟩ (ct_X7_finding l n g m_now m_kept m_aside m_isKept m_found m_steps m_queue m_lives m_treads m_tape m_taped m_begins m_ends m_sort m_value m_isWrong m_items m_itemMany m_seedThen m_groundThen m_widths m_sizes m_numbers m_moved (-1000001 : Int32) q4 hq4) (cwV 1 hts gX7_tread_X7_finding rfl rfl rfl hd_X7_finding ⟨Nat.le_of_ble_eq_true rfl, Nat.le_of_ble_eq_true rfl⟩) ⟨bl_M, va_recv hK hP (ci := 5) (q0 := 0) rfl k_md, pr_M rfl hB hP hS⟩ rfl rfl hl.1 rfl (lv_room (Nat.le_of_ble_eq_true rfl)) dX7_tread_17 ⟨Nat.le_refl _, Nat.le_refl _⟩) hS rfl (fun hn5 H locs hP hS => ?_)
    have hP : va_P g.1 vwCl (mw g (m_now, m_kept, m_aside, m_isKept, q4.2, m_steps, m_queue, m_lives, m_treads, m_tape, m_taped, m_begins, m_ends, m_sort, m_value, m_isWrong, m_items, m_itemMany, m_seedThen, m_groundThen, m_widths, m_sizes, m_numbers, m_moved)) H := hP
    have hres : (q4.1, m_now, q4.2) = res := (Option.some.inj hf)
    have hP := w_eq (congrArg (fun z => mw g (z.2.1, m_kept, m_aside, m_isKept, z.2.2, m_steps, m_queue, m_lives, m_treads, m_tape, m_taped, m_begins, m_ends, m_sort, m_value, m_isWrong, m_items, m_itemMany, m_seedThen, m_groundThen, m_widths, m_sizes, m_numbers, m_moved)) hres) hP
    exact W.iret (v := q4.1) hx hb hr (fun t ht hW => ⟨congrArg (fun z => Outcome.returned (some (Value.int z.1))) hres, trivial, by rw [ht]; exact hP, hS.F ht⟩) hS.2.2 dX7_tread_20
  · have hf := (if_neg hc3).symm.trans hf
    refine lv_iload_n hx hb dX7_tread_7 rfl (lv_at hl 2 rfl) ?_
    obtain ⟨q6, hq6, hf⟩ := bd_some hf
    refine kr_S (st1 := [.int q6]) (va_runS (As := [.int a2]) (rest := []) ⟨hx, hb, hml, hown, hts⟩ (ct_X7_isPath l n a2 q6 hq6) (va_cwS 1 hts gX7_tread_X7_isPath rfl rfl rfl hn_X7_isPath ⟨Nat.le_of_ble_eq_true rfl, Nat.le_of_ble_eq_true rfl⟩) ⟨bl_N, pr_N rfl hNW⟩ rfl rfl hl.1 rfl (lv_room (Nat.le_of_ble_eq_true rfl)) dX7_tread_8 ⟨Nat.le_refl _, Nat.le_refl _⟩) rfl (fun hn7 => ?_)
    refine lv_if_ne (tgt := 21) hx hb dX7_tread_11 (by decide) (fun hc8 => ?_) (fun hc8 => ?_)
    · have hf := (if_neg hc8).symm.trans hf
      refine lv_aload_n hx hb dX7_tread_21 rfl (lv_at hl 0 rfl) ?_
      refine lv_iload_n hx hb dX7_tread_22 rfl (lv_at hl 1 rfl) ?_
      obtain ⟨q9, hq9, hf⟩ := bd_some hf
      refine kr_S (st1 := [.int q9]) (va_runV (As := [.int a1]) (rest := []) ⟨hx, hb, hml, hown, hts⟩ (ct_X7_isGrass l n g m_now m_kept m_aside m_isKept m_found m_steps m_queue m_lives m_treads m_tape m_taped m_begins m_ends m_sort m_value m_isWrong m_items m_itemMany m_seedThen m_groundThen m_widths m_sizes m_numbers m_moved a1 q9 hq9) (cwV 1 hts gX7_tread_X7_isGrass rfl rfl rfl hd_X7_isGrass ⟨Nat.le_of_ble_eq_true rfl, Nat.le_of_ble_eq_true rfl⟩) ⟨bl_M, va_recv hK hP (ci := 5) (q0 := 0) rfl k_md, pr_M rfl hB hP hS⟩ rfl rfl hl.1 rfl (lv_room (Nat.le_of_ble_eq_true rfl)) dX7_tread_23 ⟨Nat.le_refl _, Nat.le_refl _⟩) rfl (fun hn10 => ?_)
      refine lv_if_eq (tgt := 41) hx hb dX7_tread_26 (by decide) (fun hc11 => ?_) (fun hc11 => ?_)
      · have hf := (if_pos hc11).symm.trans hf
        refine lv_aload_n hx hb dX7_tread_41 rfl (lv_at hl 0 rfl) ?_
        refine lv_ldc (v := (-1000005 : Int32)) hx hb hown hw1 dX7_tread_42 ?_
        obtain ⟨q12, hq12, hf⟩ := bd_some hf
        refine kr_W (st1 := [.int q12.1]) (va_runV (As := [.int (-1000005 : Int32)]) (rest := []) ⟨hx, hb, hml, hown, hts⟩ (ct_X7_finding l n g m_now m_kept m_aside m_isKept m_found m_steps m_queue m_lives m_treads m_tape m_taped m_begins m_ends m_sort m_value m_isWrong m_items m_itemMany m_seedThen m_groundThen m_widths m_sizes m_numbers m_moved (-1000005 : Int32) q12 hq12) (cwV 1 hts gX7_tread_X7_finding rfl rfl rfl hd_X7_finding ⟨Nat.le_of_ble_eq_true rfl, Nat.le_of_ble_eq_true rfl⟩) ⟨bl_M, va_recv hK hP (ci := 5) (q0 := 0) rfl k_md, pr_M rfl hB hP hS⟩ rfl rfl hl.1 rfl (lv_room (Nat.le_of_ble_eq_true rfl)) dX7_tread_44 ⟨Nat.le_refl _, Nat.le_refl _⟩) hS rfl (fun hn13 H locs hP hS => ?_)
        have hP : va_P g.1 vwCl (mw g (m_now, m_kept, m_aside, m_isKept, q12.2, m_steps, m_queue, m_lives, m_treads, m_tape, m_taped, m_begins, m_ends, m_sort, m_value, m_isWrong, m_items, m_itemMany, m_seedThen, m_groundThen, m_widths, m_sizes, m_numbers, m_moved)) H := hP
        have hres : (q12.1, m_now, q12.2) = res := (Option.some.inj hf)
        have hP := w_eq (congrArg (fun z => mw g (z.2.1, m_kept, m_aside, m_isKept, z.2.2, m_steps, m_queue, m_lives, m_treads, m_tape, m_taped, m_begins, m_ends, m_sort, m_value, m_isWrong, m_items, m_itemMany, m_seedThen, m_groundThen, m_widths, m_sizes, m_numbers, m_moved)) hres) hP
        exact W.iret (v := q12.1) hx hb hr (fun t ht hW => ⟨congrArg (fun z => Outcome.returned (some (Value.int z.1))) hres, trivial, by rw [ht]; exact hP, hS.F ht⟩) hS.2.2 dX7_tread_47
      · have hf := (if_neg hc11).symm.trans hf
        refine lv_aload_n hx hb dX7_tread_29 rfl (lv_at hl 0 rfl) ?_
        refine lv_bipush (v := (49 : Int32)) hx hb dX7_tread_30 (by decide) ?_
        refine lv_iload_n hx hb dX7_tread_32 rfl (lv_at hl 1 rfl) ?_
        refine lv_iadd hx hb dX7_tread_33 ?_
        refine lv_iload_n hx hb dX7_tread_34 rfl (lv_at hl 2 rfl) ?_
        obtain ⟨q14, hq14, hf⟩ := bd_some hf
        refine kr_W (st1 := [.int q14.1]) (va_runV (As := [.int ((49 : Int32) + a1), .int a2]) (rest := []) ⟨hx, hb, hml, hown, hts⟩ (ct_X7_become l n g m_now m_kept m_aside m_isKept m_found m_steps m_queue m_lives m_treads m_tape m_taped m_begins m_ends m_sort m_value m_isWrong m_items m_itemMany m_seedThen m_groundThen m_widths m_sizes m_numbers m_moved ((49 : Int32) + a1) a2 q14 hq14) (cwV 2 hts gX7_tread_X7_become rfl rfl rfl hd_X7_become ⟨Nat.le_of_ble_eq_true rfl, Nat.le_of_ble_eq_true rfl⟩) ⟨bl_M, va_recv hK hP (ci := 5) (q0 := 0) rfl k_md, pr_M rfl hB hP hS⟩ rfl rfl hl.1 rfl (lv_room (Nat.le_of_ble_eq_true rfl)) dX7_tread_35 ⟨Nat.le_refl _, Nat.le_refl _⟩) hS rfl (fun hn15 H locs hP hS => ?_)
        have hP : va_P g.1 vwCl (mw g (q14.2, m_kept, m_aside, m_isKept, m_found, m_steps, m_queue, m_lives, m_treads, m_tape, m_taped, m_begins, m_ends, m_sort, m_value, m_isWrong, m_items, m_itemMany, m_seedThen, m_groundThen, m_widths, m_sizes, m_numbers, m_moved)) H := hP
        refine lv_goto (tgt := 47) hx hb dX7_tread_38 (by decide) ?_
        have hres : (q14.1, q14.2, m_found) = res := (Option.some.inj hf)
        have hP := w_eq (congrArg (fun z => mw g (z.2.1, m_kept, m_aside, m_isKept, z.2.2, m_steps, m_queue, m_lives, m_treads, m_tape, m_taped, m_begins, m_ends, m_sort, m_value, m_isWrong, m_items, m_itemMany, m_seedThen, m_groundThen, m_widths, m_sizes, m_numbers, m_moved)) hres) hP
        exact W.iret (v := q14.1) hx hb hr (fun t ht hW => ⟨congrArg (fun z => Outcome.returned (some (Value.int z.1))) hres, trivial, by rw [ht]; exact hP, hS.F ht⟩) hS.2.2 dX7_tread_47
    · have hf := (if_pos hc8).symm.trans hf
      refine lv_aload_n hx hb dX7_tread_14 rfl (lv_at hl 0 rfl) ?_
      refine lv_ldc (v := (-1000001 : Int32)) hx hb hown hw0 dX7_tread_15 ?_
      obtain ⟨q16, hq16, hf⟩ := bd_some hf
      refine kr_W (st1 := [.int q16.1]) (va_runV (As := [.int (-1000001 : Int32)]) (rest := []) ⟨hx, hb, hml, hown, hts⟩ (ct_X7_finding l n g m_now m_kept m_aside m_isKept m_found m_steps m_queue m_lives m_treads m_tape m_taped m_begins m_ends m_sort m_value m_isWrong m_items m_itemMany m_seedThen m_groundThen m_widths m_sizes m_numbers m_moved (-1000001 : Int32) q16 hq16) (cwV 1 hts gX7_tread_X7_finding rfl rfl rfl hd_X7_finding ⟨Nat.le_of_ble_eq_true rfl, Nat.le_of_ble_eq_true rfl⟩) ⟨bl_M, va_recv hK hP (ci := 5) (q0 := 0) rfl k_md, pr_M rfl hB hP hS⟩ rfl rfl hl.1 rfl (lv_room (Nat.le_of_ble_eq_true rfl)) dX7_tread_17 ⟨Nat.le_refl _, Nat.le_refl _⟩) hS rfl (fun hn17 H locs hP hS => ?_)
      have hP : va_P g.1 vwCl (mw g (m_now, m_kept, m_aside, m_isKept, q16.2, m_steps, m_queue, m_lives, m_treads, m_tape, m_taped, m_begins, m_ends, m_sort, m_value, m_isWrong, m_items, m_itemMany, m_seedThen, m_groundThen, m_widths, m_sizes, m_numbers, m_moved)) H := hP
      have hres : (q16.1, m_now, q16.2) = res := (Option.some.inj hf)
      have hP := w_eq (congrArg (fun z => mw g (z.2.1, m_kept, m_aside, m_isKept, z.2.2, m_steps, m_queue, m_lives, m_treads, m_tape, m_taped, m_begins, m_ends, m_sort, m_value, m_isWrong, m_items, m_itemMany, m_seedThen, m_groundThen, m_widths, m_sizes, m_numbers, m_moved)) hres) hP
      exact W.iret (v := q16.1) hx hb hr (fun t ht hW => ⟨congrArg (fun z => Outcome.returned (some (Value.int z.1))) hres, trivial, by rw [ht]; exact hP, hS.F ht⟩) hS.2.2 dX7_tread_20
set_option maxHeartbeats 4000000 in
set_option maxRecDepth 100000 in
theorem ct_X7_comes (l : Launch) (n : Nat) (g : GM) (m_now : Nat → Int32) (m_kept : Nat → Int32) (m_aside : Nat → Int32) (m_isKept : Int32) (m_found : Nat → Int32) (m_steps : Nat → Int32) (m_queue : Nat → Int32) (m_lives : Nat → Int32) (m_treads : Nat → Int32) (m_tape : Nat → Int32) (m_taped : Int32) (m_begins : Int32) (m_ends : Int32) (m_sort : Int32) (m_value : Int32) (m_isWrong : Int32) (m_items : Nat → Int32) (m_itemMany : Int32) (m_seedThen : Int32) (m_groundThen : Nat → Int32) (m_widths : Nat → Int32) (m_sizes : Nat → Int32) (m_numbers : Nat → Int32) (m_moved : Nat → Int32) (a1 : Int32) (a2 : Int32) (a3 : Int32) (a4 : Int32) (res : Int32 × (Nat → Int32)) (hf : fX7_comes n a1 a2 a3 a4 m_now = some res) : Met l yX7_comes wsX7_comes ({ frames := 1, cells := 0, slots := 0, locals := 21 }) (va_Pc [.ref (gm g 0), .int a1, .int a2, .int a3, .int a4] (mI g (m_now, m_kept, m_aside, m_isKept, m_found, m_steps, m_queue, m_lives, m_treads, m_tape, m_taped, m_begins, m_ends, m_sort, m_value, m_isWrong, m_items, m_itemMany, m_seedThen, m_groundThen, m_widths, m_sizes, m_numbers, m_moved))) (qW (some (.int res.1)) True g.1 (mw g (res.2, m_kept, m_aside, m_isKept, m_found, m_steps, m_queue, m_lives, m_treads, m_tape, m_taped, m_begins, m_ends, m_sort, m_value, m_isWrong, m_items, m_itemMany, m_seedThen, m_groundThen, m_widths, m_sizes, m_numbers, m_moved)) (mA g)) 0 0 (mA g) := by
  refine Met.ofW (cc := cX7_comes) (maxL := 6) (ret := (some .int)) (by decide) rfl ?_
  intro p e s m args below meth c s₁ B hml hv
  obtain ⟨rfl, hI⟩ := hv
  have hx := B.exec
  have hb := B.bytes
  have hr := B.returns
  have hts := atoms_spec (ws := wsX7_comes) B.pre
  have hown : s.vm.findClass RX7 = some m.cls := findClass_of_methodNamed B.named
  have hlocks := B.notSynchronized
  have hP := hI.1
  have hB := hI.2
  have hK := hB.1
  have hNW := hB.2.1
  have hS : va_S (mA g) s.heap s.heap [] := va_S.rf
  have hw0 := hts (.fieldLink RX7 9 "SownPathsModel" "now" "[I") (by decide +kernel)
  have iwX7 : ∀ w ∈ wsX70, w ∈ wsX7_comes := fun w h => List.mem_cons_of_mem _ (List.mem_append_right _ h)
  have hl := lv_entry ([.ref (gm g 0), .int a1, .int a2, .int a3, .int a4]) (n := 6) (Nat.le_of_ble_eq_true rfl)
  rw [lg_entry_eq]
  generalize (lg_sl ([.ref (gm g 0), .int a1, .int a2, .int a3, .int a4]) ++ List.replicate (6 - (lg_sl ([.ref (gm g 0), .int a1, .int a2, .int a3, .int a4])).length) Slot.unset).toArray = ls at hl ⊢
  have hl : lv_has ls 6 [(0, .ref (gm g 0)), (1, .int a1), (2, .int a2), (3, .int a3), (4, .int a4)] := hl
  unfold fX7_comes at hf
  refine lv_aload_n hx hb dX7_comes_0 rfl (lv_at hl 0 rfl) ?_
  refine va_get (D := g.1) (ci := 5) (v := .ref (gm g 1)) (C := RX7) (T := TX7) (N := 27) hx hb hts iwX7 hown hK hP 0 k_md rfl 0 (by decide) hw0 (fun _ h9 => h9) rfl dX7_comes_1 ?_
  refine lv_iconst (v := (1 : Int32)) hx hb dX7_comes_4 (by decide) ?_
  refine va_iald (f := m_now) hx hb hK hP 1 0 k_now rfl (vi_lit (by decide)) dX7_comes_5 ?_
  refine lv_istore (lv' := [(5, .int (m_now (1 : Int32).toNatClampNeg)), (0, .ref (gm g 0)), (1, .int a1), (2, .int a2), (3, .int a3), (4, .int a4)]) hx hb dX7_comes_6 hl (by decide) rfl (fun ls hl => ?_)
  refine lv_aload_n hx hb dX7_comes_8 rfl (lv_at hl 1 rfl) ?_
  refine va_get (D := g.1) (ci := 5) (v := .ref (gm g 1)) (C := RX7) (T := TX7) (N := 27) hx hb hts iwX7 hown hK hP 0 k_md rfl 0 (by decide) hw0 (fun _ h9 => h9) rfl dX7_comes_9 ?_
  refine lv_iload hx hb dX7_comes_12 (lv_at hl 0 rfl) ?_
  refine lv_iconst (v := (0 : Int32)) hx hb dX7_comes_14 (by decide) ?_
  obtain ⟨q1, hq1, hf⟩ := bd_some hf
  refine kr_S (st1 := [.int q1, .ref (gm g 1)]) (va_runS (As := [.int (m_now (1 : Int32).toNatClampNeg), .int (0 : Int32)]) (rest := [.ref (gm g 1)]) ⟨hx, hb, hml, hown, hts⟩ (ct_X7_at l n (m_now (1 : Int32).toNatClampNeg) (0 : Int32) q1 hq1) (va_cwS 2 hts gX7_comes_X7_at rfl rfl rfl hn_X7_at ⟨Nat.le_of_ble_eq_true rfl, Nat.le_of_ble_eq_true rfl⟩) ⟨bl_N, pr_N rfl hNW⟩ rfl rfl hl.1 rfl (lv_room (Nat.le_of_ble_eq_true rfl)) dX7_comes_15 ⟨Nat.le_refl _, Nat.le_refl _⟩) rfl (fun hn2 => ?_)
  refine lv_iload_n hx hb dX7_comes_18 rfl (lv_at hl 2 rfl) ?_
  obtain ⟨hg3, hf⟩ := gd_some hf
  refine va_iast (f := m_now) hx hb hK hP (mD hB.2.2.1 _) hS 1 0 k_now rfl hg3 dX7_comes_19 (fun H locs hP _ hS => ?_)
  have hP : va_P g.1 vwCl (mw g ((upd m_now q1.toNatClampNeg a1), m_kept, m_aside, m_isKept, m_found, m_steps, m_queue, m_lives, m_treads, m_tape, m_taped, m_begins, m_ends, m_sort, m_value, m_isWrong, m_items, m_itemMany, m_seedThen, m_groundThen, m_widths, m_sizes, m_numbers, m_moved)) H := w_eq (k_set_now (upd m_now q1.toNatClampNeg a1)) hP
  refine lv_aload_n hx hb dX7_comes_20 rfl (lv_at hl 1 rfl) ?_
  refine va_get (D := g.1) (ci := 5) (v := .ref (gm g 1)) (C := RX7) (T := TX7) (N := 27) hx hb hts iwX7 hown hK hP 0 k_md rfl 0 (by decide) hw0 (fun _ h9 => h9) rfl dX7_comes_21 ?_
  refine lv_iload hx hb dX7_comes_24 (lv_at hl 0 rfl) ?_
  refine lv_iconst (v := (1 : Int32)) hx hb dX7_comes_26 (by decide) ?_
  obtain ⟨q4, hq4, hf⟩ := bd_some hf
  refine kr_S (st1 := [.int q4, .ref (gm g 1)]) (va_runS (As := [.int (m_now (1 : Int32).toNatClampNeg), .int (1 : Int32)]) (rest := [.ref (gm g 1)]) ⟨hx, hb, hml, hown, hts⟩ (ct_X7_at l n (m_now (1 : Int32).toNatClampNeg) (1 : Int32) q4 hq4) (va_cwS 2 hts gX7_comes_X7_at rfl rfl rfl hn_X7_at ⟨Nat.le_of_ble_eq_true rfl, Nat.le_of_ble_eq_true rfl⟩) ⟨bl_N, pr_N rfl hNW⟩ rfl rfl hl.1 rfl (lv_room (Nat.le_of_ble_eq_true rfl)) dX7_comes_27 ⟨Nat.le_refl _, Nat.le_refl _⟩) rfl (fun hn5 => ?_)
  refine lv_iload_n hx hb dX7_comes_30 rfl (lv_at hl 3 rfl) ?_
  obtain ⟨hg6, hf⟩ := gd_some hf
  refine va_iast (f := (upd m_now q1.toNatClampNeg a1)) hx hb hK hP (mD hB.2.2.1 _) hS 1 0 k_now rfl hg6 dX7_comes_31 (fun H locs hP _ hS => ?_)
  have hP : va_P g.1 vwCl (mw g ((upd (upd m_now q1.toNatClampNeg a1) q4.toNatClampNeg a2), m_kept, m_aside, m_isKept, m_found, m_steps, m_queue, m_lives, m_treads, m_tape, m_taped, m_begins, m_ends, m_sort, m_value, m_isWrong, m_items, m_itemMany, m_seedThen, m_groundThen, m_widths, m_sizes, m_numbers, m_moved)) H := w_eq (k_set_now (upd (upd m_now q1.toNatClampNeg a1) q4.toNatClampNeg a2)) hP
  refine lv_aload_n hx hb dX7_comes_32 rfl (lv_at hl 1 rfl) ?_
  refine va_get (D := g.1) (ci := 5) (v := .ref (gm g 1)) (C := RX7) (T := TX7) (N := 27) hx hb hts iwX7 hown hK hP 0 k_md rfl 0 (by decide) hw0 (fun _ h9 => h9) rfl dX7_comes_33 ?_
  refine lv_iload hx hb dX7_comes_36 (lv_at hl 0 rfl) ?_
  refine lv_iconst (v := (2 : Int32)) hx hb dX7_comes_38 (by decide) ?_
  obtain ⟨q7, hq7, hf⟩ := bd_some hf
  refine kr_S (st1 := [.int q7, .ref (gm g 1)]) (va_runS (As := [.int (m_now (1 : Int32).toNatClampNeg), .int (2 : Int32)]) (rest := [.ref (gm g 1)]) ⟨hx, hb, hml, hown, hts⟩ (ct_X7_at l n (m_now (1 : Int32).toNatClampNeg) (2 : Int32) q7 hq7) (va_cwS 2 hts gX7_comes_X7_at rfl rfl rfl hn_X7_at ⟨Nat.le_of_ble_eq_true rfl, Nat.le_of_ble_eq_true rfl⟩) ⟨bl_N, pr_N rfl hNW⟩ rfl rfl hl.1 rfl (lv_room (Nat.le_of_ble_eq_true rfl)) dX7_comes_39 ⟨Nat.le_refl _, Nat.le_refl _⟩) rfl (fun hn8 => ?_)
  refine lv_iload_n hx hb dX7_comes_42 rfl (lv_at hl 4 rfl) ?_
  obtain ⟨hg9, hf⟩ := gd_some hf
  refine va_iast (f := (upd (upd m_now q1.toNatClampNeg a1) q4.toNatClampNeg a2)) hx hb hK hP (mD hB.2.2.1 _) hS 1 0 k_now rfl hg9 dX7_comes_43 (fun H locs hP _ hS => ?_)
  have hP : va_P g.1 vwCl (mw g ((upd (upd (upd m_now q1.toNatClampNeg a1) q4.toNatClampNeg a2) q7.toNatClampNeg a3), m_kept, m_aside, m_isKept, m_found, m_steps, m_queue, m_lives, m_treads, m_tape, m_taped, m_begins, m_ends, m_sort, m_value, m_isWrong, m_items, m_itemMany, m_seedThen, m_groundThen, m_widths, m_sizes, m_numbers, m_moved)) H := w_eq (k_set_now (upd (upd (upd m_now q1.toNatClampNeg a1) q4.toNatClampNeg a2) q7.toNatClampNeg a3)) hP
  refine lv_aload_n hx hb dX7_comes_44 rfl (lv_at hl 1 rfl) ?_
  refine va_get (D := g.1) (ci := 5) (v := .ref (gm g 1)) (C := RX7) (T := TX7) (N := 27) hx hb hts iwX7 hown hK hP 0 k_md rfl 0 (by decide) hw0 (fun _ h9 => h9) rfl dX7_comes_45 ?_
  refine lv_iload hx hb dX7_comes_48 (lv_at hl 0 rfl) ?_
  refine lv_iconst (v := (3 : Int32)) hx hb dX7_comes_50 (by decide) ?_
  obtain ⟨q10, hq10, hf⟩ := bd_some hf
  refine kr_S (st1 := [.int q10, .ref (gm g 1)]) (va_runS (As := [.int (m_now (1 : Int32).toNatClampNeg), .int (3 : Int32)]) (rest := [.ref (gm g 1)]) ⟨hx, hb, hml, hown, hts⟩ (ct_X7_at l n (m_now (1 : Int32).toNatClampNeg) (3 : Int32) q10 hq10) (va_cwS 2 hts gX7_comes_X7_at rfl rfl rfl hn_X7_at ⟨Nat.le_of_ble_eq_true rfl, Nat.le_of_ble_eq_true rfl⟩) ⟨bl_N, pr_N rfl hNW⟩ rfl rfl hl.1 rfl (lv_room (Nat.le_of_ble_eq_true rfl)) dX7_comes_51 ⟨Nat.le_refl _, Nat.le_refl _⟩) rfl (fun hn11 => ?_)
  refine lv_iload hx hb dX7_comes_54 (lv_at hl 5 rfl) ?_
  obtain ⟨hg12, hf⟩ := gd_some hf
  refine va_iast (f := (upd (upd (upd m_now q1.toNatClampNeg a1) q4.toNatClampNeg a2) q7.toNatClampNeg a3)) hx hb hK hP (mD hB.2.2.1 _) hS 1 0 k_now rfl hg12 dX7_comes_56 (fun H locs hP _ hS => ?_)
  have hP : va_P g.1 vwCl (mw g ((upd (upd (upd (upd m_now q1.toNatClampNeg a1) q4.toNatClampNeg a2) q7.toNatClampNeg a3) q10.toNatClampNeg a4), m_kept, m_aside, m_isKept, m_found, m_steps, m_queue, m_lives, m_treads, m_tape, m_taped, m_begins, m_ends, m_sort, m_value, m_isWrong, m_items, m_itemMany, m_seedThen, m_groundThen, m_widths, m_sizes, m_numbers, m_moved)) H := w_eq (k_set_now (upd (upd (upd (upd m_now q1.toNatClampNeg a1) q4.toNatClampNeg a2) q7.toNatClampNeg a3) q10.toNatClampNeg a4)) hP
  refine lv_aload_n hx hb dX7_comes_57 rfl (lv_at hl 1 rfl) ?_
  refine va_get (D := g.1) (ci := 5) (v := .ref (gm g 1)) (C := RX7) (T := TX7) (N := 27) hx hb hts iwX7 hown hK hP 0 k_md rfl 0 (by decide) hw0 (fun _ h9 => h9) rfl dX7_comes_58 ?_
  refine lv_iconst (v := (1 : Int32)) hx hb dX7_comes_61 (by decide) ?_
  refine lv_dup2_11 hx hb dX7_comes_62 rfl rfl ?_
  refine va_iald (f := (upd (upd (upd (upd m_now q1.toNatClampNeg a1) q4.toNatClampNeg a2) q7.toNatClampNeg a3) q10.toNatClampNeg a4)) hx hb hK hP 1 0 k_now rfl (vi_lit (by decide)) dX7_comes_63 ?_
  refine lv_iconst (v := (1 : Int32)) hx hb dX7_comes_64 (by decide) ?_
  refine lv_iadd hx hb dX7_comes_65 ?_
  refine va_iast (f := (upd (upd (upd (upd m_now q1.toNatClampNeg a1) q4.toNatClampNeg a2) q7.toNatClampNeg a3) q10.toNatClampNeg a4)) hx hb hK hP (mD hB.2.2.1 _) hS 1 0 k_now rfl (vi_lit (by decide)) dX7_comes_66 (fun H locs hP _ hS => ?_)
  have hP : va_P g.1 vwCl (mw g ((upd (upd (upd (upd (upd m_now q1.toNatClampNeg a1) q4.toNatClampNeg a2) q7.toNatClampNeg a3) q10.toNatClampNeg a4) (1 : Int32).toNatClampNeg (((upd (upd (upd (upd m_now q1.toNatClampNeg a1) q4.toNatClampNeg a2) q7.toNatClampNeg a3) q10.toNatClampNeg a4) (1 : Int32).toNatClampNeg) + (1 : Int32))), m_kept, m_aside, m_isKept, m_found, m_steps, m_queue, m_lives, m_treads, m_tape, m_taped, m_begins, m_ends, m_sort, m_value, m_isWrong, m_items, m_itemMany, m_seedThen, m_groundThen, m_widths, m_sizes, m_numbers, m_moved)) H := w_eq (k_set_now (upd (upd (upd (upd (upd m_now q1.toNatClampNeg a1) q4.toNatClampNeg a2) q7.toNatClampNeg a3) q10.toNatClampNeg a4) (1 : Int32).toNatClampNeg (((upd (upd (upd (upd m_now q1.toNatClampNeg a1) q4.toNatClampNeg a2) q7.toNatClampNeg a3) q10.toNatClampNeg a4) (1 : Int32).toNatClampNeg) + (1 : Int32)))) hP
  refine lv_iload hx hb dX7_comes_67 (lv_at hl 0 rfl) ?_
  have hres : ((m_now (1 : Int32).toNatClampNeg), (upd (upd (upd (upd (upd m_now q1.toNatClampNeg a1) q4.toNatClampNeg a2) q7.toNatClampNeg a3) q10.toNatClampNeg a4) (1 : Int32).toNatClampNeg (((upd (upd (upd (upd m_now q1.toNatClampNeg a1) q4.toNatClampNeg a2) q7.toNatClampNeg a3) q10.toNatClampNeg a4) (1 : Int32).toNatClampNeg) + (1 : Int32)))) = res := (Option.some.inj hf)
  have hP := w_eq (congrArg (fun z => mw g (z.2, m_kept, m_aside, m_isKept, m_found, m_steps, m_queue, m_lives, m_treads, m_tape, m_taped, m_begins, m_ends, m_sort, m_value, m_isWrong, m_items, m_itemMany, m_seedThen, m_groundThen, m_widths, m_sizes, m_numbers, m_moved)) hres) hP
  exact W.iret (v := (m_now (1 : Int32).toNatClampNeg)) hx hb hr (fun t ht hW => ⟨congrArg (fun z => Outcome.returned (some (Value.int z.1))) hres, trivial, by rw [ht]; exact hP, hS.F ht⟩) hS.2.2 dX7_comes_69
set_option maxHeartbeats 4000000 in
set_option maxRecDepth 100000 in
theorem ct_X7_sow (l : Launch) (n : Nat) (g : GM) (m_now : Nat → Int32) (m_kept : Nat → Int32) (m_aside : Nat → Int32) (m_isKept : Int32) (m_found : Nat → Int32) (m_steps : Nat → Int32) (m_queue : Nat → Int32) (m_lives : Nat → Int32) (m_treads : Nat → Int32) (m_tape : Nat → Int32) (m_taped : Int32) (m_begins : Int32) (m_ends : Int32) (m_sort : Int32) (m_value : Int32) (m_isWrong : Int32) (m_items : Nat → Int32) (m_itemMany : Int32) (m_seedThen : Int32) (m_groundThen : Nat → Int32) (m_widths : Nat → Int32) (m_sizes : Nat → Int32) (m_numbers : Nat → Int32) (m_moved : Nat → Int32) (a1 : Int32) (a2 : Int32) (a3 : Int32) (res : Int32 × (Nat → Int32) × (Nat → Int32)) (hf : fX7_sow n a1 a2 a3 m_now m_found = some res) : Met l yX7_sow wsX7_sow ({ frames := 2, cells := 0, slots := 0, locals := 46 }) (va_Pc [.ref (gm g 0), .int a1, .int a2, .int a3] (mI g (m_now, m_kept, m_aside, m_isKept, m_found, m_steps, m_queue, m_lives, m_treads, m_tape, m_taped, m_begins, m_ends, m_sort, m_value, m_isWrong, m_items, m_itemMany, m_seedThen, m_groundThen, m_widths, m_sizes, m_numbers, m_moved))) (qW (some (.int res.1)) True g.1 (mw g (res.2.1, m_kept, m_aside, m_isKept, res.2.2, m_steps, m_queue, m_lives, m_treads, m_tape, m_taped, m_begins, m_ends, m_sort, m_value, m_isWrong, m_items, m_itemMany, m_seedThen, m_groundThen, m_widths, m_sizes, m_numbers, m_moved)) (mA g)) 0 0 (mA g) := by
  refine Met.ofW (cc := cX7_sow) (maxL := 4) (ret := (some .int)) (by decide) rfl ?_
  intro p e s m args below meth c s₁ B hml hv
  obtain ⟨rfl, hI⟩ := hv
  have hx := B.exec
  have hb := B.bytes
  have hr := B.returns
  have hts := atoms_spec (ws := wsX7_sow) B.pre
  have hown : s.vm.findClass RX7 = some m.cls := findClass_of_methodNamed B.named
  have hlocks := B.notSynchronized
  have hP := hI.1
  have hB := hI.2
  have hK := hB.1
  have hNW := hB.2.1
  have hS : va_S (mA g) s.heap s.heap [] := va_S.rf
  have hw0 := hts (.constant RX7 95 (-1000001)) (by decide +kernel)
  have hw1 := hts (.fieldLink RX7 9 "SownPathsModel" "now" "[I") (by decide +kernel)
  have hw2 := hts (.constant RX7 151 (-1000002)) (by decide +kernel)
  have iwX7 : ∀ w ∈ wsX70, w ∈ wsX7_sow := fun w h => List.mem_cons_of_mem _ (List.mem_append_right _ h)
  have hl := lv_entry ([.ref (gm g 0), .int a1, .int a2, .int a3]) (n := 4) (Nat.le_of_ble_eq_true rfl)
  rw [lg_entry_eq]
  generalize (lg_sl ([.ref (gm g 0), .int a1, .int a2, .int a3]) ++ List.replicate (4 - (lg_sl ([.ref (gm g 0), .int a1, .int a2, .int a3])).length) Slot.unset).toArray = ls at hl ⊢
  have hl : lv_has ls 4 [(0, .ref (gm g 0)), (1, .int a1), (2, .int a2), (3, .int a3)] := hl
  unfold fX7_sow at hf
  refine lv_iload_n hx hb dX7_sow_0 rfl (lv_at hl 1 rfl) ?_
  obtain ⟨q1, hq1, hf⟩ := bd_some hf
  refine kr_S (st1 := [.int q1]) (va_runS (As := [.int a1]) (rest := []) ⟨hx, hb, hml, hown, hts⟩ (ct_X7_isKind l n a1 q1 hq1) (va_cwS 1 hts gX7_sow_X7_isKind rfl rfl rfl hn_X7_isKind ⟨Nat.le_of_ble_eq_true rfl, Nat.le_of_ble_eq_true rfl⟩) ⟨bl_N, pr_N rfl hNW⟩ rfl rfl hl.1 rfl (lv_room (Nat.le_of_ble_eq_true rfl)) dX7_sow_1 ⟨Nat.le_refl _, Nat.le_refl _⟩) rfl (fun hn2 => ?_)
  refine lv_if_eq (tgt := 21) hx hb dX7_sow_4 (by decide) (fun hc3 => ?_) (fun hc3 => ?_)
  · have hf := (if_pos hc3).symm.trans hf
    refine lv_aload_n hx hb dX7_sow_21 rfl (lv_at hl 0 rfl) ?_
    refine lv_ldc (v := (-1000001 : Int32)) hx hb hown hw0 dX7_sow_22 ?_
    obtain ⟨q4, hq4, hf⟩ := bd_some hf
    refine kr_W (st1 := [.int q4.1]) (va_runV (As := [.int (-1000001 : Int32)]) (rest := []) ⟨hx, hb, hml, hown, hts⟩ (ct_X7_finding l n g m_now m_kept m_aside m_isKept m_found m_steps m_queue m_lives m_treads m_tape m_taped m_begins m_ends m_sort m_value m_isWrong m_items m_itemMany m_seedThen m_groundThen m_widths m_sizes m_numbers m_moved (-1000001 : Int32) q4 hq4) (cwV 1 hts gX7_sow_X7_finding rfl rfl rfl hd_X7_finding ⟨Nat.le_of_ble_eq_true rfl, Nat.le_of_ble_eq_true rfl⟩) ⟨bl_M, va_recv hK hP (ci := 5) (q0 := 0) rfl k_md, pr_M rfl hB hP hS⟩ rfl rfl hl.1 rfl (lv_room (Nat.le_of_ble_eq_true rfl)) dX7_sow_24 ⟨Nat.le_refl _, Nat.le_refl _⟩) hS rfl (fun hn5 H locs hP hS => ?_)
    have hP : va_P g.1 vwCl (mw g (m_now, m_kept, m_aside, m_isKept, q4.2, m_steps, m_queue, m_lives, m_treads, m_tape, m_taped, m_begins, m_ends, m_sort, m_value, m_isWrong, m_items, m_itemMany, m_seedThen, m_groundThen, m_widths, m_sizes, m_numbers, m_moved)) H := hP
    have hres : (q4.1, m_now, q4.2) = res := (Option.some.inj hf)
    have hP := w_eq (congrArg (fun z => mw g (z.2.1, m_kept, m_aside, m_isKept, z.2.2, m_steps, m_queue, m_lives, m_treads, m_tape, m_taped, m_begins, m_ends, m_sort, m_value, m_isWrong, m_items, m_itemMany, m_seedThen, m_groundThen, m_widths, m_sizes, m_numbers, m_moved)) hres) hP
    exact W.iret (v := q4.1) hx hb hr (fun t ht hW => ⟨congrArg (fun z => Outcome.returned (some (Value.int z.1))) hres, trivial, by rw [ht]; exact hP, hS.F ht⟩) hS.2.2 dX7_sow_27
  · have hf := (if_neg hc3).symm.trans hf
    refine lv_iload_n hx hb dX7_sow_7 rfl (lv_at hl 2 rfl) ?_
    obtain ⟨q6, hq6, hf⟩ := bd_some hf
    refine kr_S (st1 := [.int q6]) (va_runS (As := [.int a2]) (rest := []) ⟨hx, hb, hml, hown, hts⟩ (ct_X7_isCell l n a2 q6 hq6) (va_cwS 1 hts gX7_sow_X7_isCell rfl rfl rfl hn_X7_isCell ⟨Nat.le_of_ble_eq_true rfl, Nat.le_of_ble_eq_true rfl⟩) ⟨bl_N, pr_N rfl hNW⟩ rfl rfl hl.1 rfl (lv_room (Nat.le_of_ble_eq_true rfl)) dX7_sow_8 ⟨Nat.le_refl _, Nat.le_refl _⟩) rfl (fun hn7 => ?_)
    refine lv_if_eq (tgt := 21) hx hb dX7_sow_11 (by decide) (fun hc8 => ?_) (fun hc8 => ?_)
    · have hf := (if_pos hc8).symm.trans hf
      refine lv_aload_n hx hb dX7_sow_21 rfl (lv_at hl 0 rfl) ?_
      refine lv_ldc (v := (-1000001 : Int32)) hx hb hown hw0 dX7_sow_22 ?_
      obtain ⟨q9, hq9, hf⟩ := bd_some hf
      refine kr_W (st1 := [.int q9.1]) (va_runV (As := [.int (-1000001 : Int32)]) (rest := []) ⟨hx, hb, hml, hown, hts⟩ (ct_X7_finding l n g m_now m_kept m_aside m_isKept m_found m_steps m_queue m_lives m_treads m_tape m_taped m_begins m_ends m_sort m_value m_isWrong m_items m_itemMany m_seedThen m_groundThen m_widths m_sizes m_numbers m_moved (-1000001 : Int32) q9 hq9) (cwV 1 hts gX7_sow_X7_finding rfl rfl rfl hd_X7_finding ⟨Nat.le_of_ble_eq_true rfl, Nat.le_of_ble_eq_true rfl⟩) ⟨bl_M, va_recv hK hP (ci := 5) (q0 := 0) rfl k_md, pr_M rfl hB hP hS⟩ rfl rfl hl.1 rfl (lv_room (Nat.le_of_ble_eq_true rfl)) dX7_sow_24 ⟨Nat.le_refl _, Nat.le_refl _⟩) hS rfl (fun hn10 H locs hP hS => ?_)
      have hP : va_P g.1 vwCl (mw g (m_now, m_kept, m_aside, m_isKept, q9.2, m_steps, m_queue, m_lives, m_treads, m_tape, m_taped, m_begins, m_ends, m_sort, m_value, m_isWrong, m_items, m_itemMany, m_seedThen, m_groundThen, m_widths, m_sizes, m_numbers, m_moved)) H := hP
      have hres : (q9.1, m_now, q9.2) = res := (Option.some.inj hf)
      have hP := w_eq (congrArg (fun z => mw g (z.2.1, m_kept, m_aside, m_isKept, z.2.2, m_steps, m_queue, m_lives, m_treads, m_tape, m_taped, m_begins, m_ends, m_sort, m_value, m_isWrong, m_items, m_itemMany, m_seedThen, m_groundThen, m_widths, m_sizes, m_numbers, m_moved)) hres) hP
      exact W.iret (v := q9.1) hx hb hr (fun t ht hW => ⟨congrArg (fun z => Outcome.returned (some (Value.int z.1))) hres, trivial, by rw [ht]; exact hP, hS.F ht⟩) hS.2.2 dX7_sow_27
    · have hf := (if_neg hc8).symm.trans hf
      refine lv_iload_n hx hb dX7_sow_14 rfl (lv_at hl 3 rfl) ?_
      obtain ⟨q11, hq11, hf⟩ := bd_some hf
      refine kr_S (st1 := [.int q11]) (va_runS (As := [.int a3]) (rest := []) ⟨hx, hb, hml, hown, hts⟩ (ct_X7_isHeading l n a3 q11 hq11) (va_cwS 1 hts gX7_sow_X7_isHeading rfl rfl rfl hn_X7_isHeading ⟨Nat.le_of_ble_eq_true rfl, Nat.le_of_ble_eq_true rfl⟩) ⟨bl_N, pr_N rfl hNW⟩ rfl rfl hl.1 rfl (lv_room (Nat.le_of_ble_eq_true rfl)) dX7_sow_15 ⟨Nat.le_refl _, Nat.le_refl _⟩) rfl (fun hn12 => ?_)
      refine lv_if_ne (tgt := 28) hx hb dX7_sow_18 (by decide) (fun hc13 => ?_) (fun hc13 => ?_)
      · have hf := (if_neg hc13).symm.trans hf
        refine lv_aload_n hx hb dX7_sow_28 rfl (lv_at hl 0 rfl) ?_
        refine va_get (D := g.1) (ci := 5) (v := .ref (gm g 1)) (C := RX7) (T := TX7) (N := 27) hx hb hts iwX7 hown hK hP 0 k_md rfl 0 (by decide) hw1 (fun _ h9 => h9) rfl dX7_sow_29 ?_
        refine lv_iconst (v := (1 : Int32)) hx hb dX7_sow_32 (by decide) ?_
        refine va_iald (f := m_now) hx hb hK hP 1 0 k_now rfl (vi_lit (by decide)) dX7_sow_33 ?_
        refine lv_bipush (v := (8 : Int32)) hx hb dX7_sow_34 (by decide) ?_
        refine lv_icmp_ne (tgt := 48) hx hb dX7_sow_36 (by decide) (fun hc14 => ?_) (fun hc14 => ?_)
        · have hf := (if_neg hc14).symm.trans hf
          refine lv_aload_n hx hb dX7_sow_48 rfl (lv_at hl 0 rfl) ?_
          refine lv_iload_n hx hb dX7_sow_49 rfl (lv_at hl 1 rfl) ?_
          refine lv_iload_n hx hb dX7_sow_50 rfl (lv_at hl 2 rfl) ?_
          refine lv_iload_n hx hb dX7_sow_51 rfl (lv_at hl 3 rfl) ?_
          refine lv_iconst (v := (0 : Int32)) hx hb dX7_sow_52 (by decide) ?_
          obtain ⟨q15, hq15, hf⟩ := bd_some hf
          refine kr_W (st1 := [.int q15.1]) (va_runV (As := [.int a1, .int a2, .int a3, .int (0 : Int32)]) (rest := []) ⟨hx, hb, hml, hown, hts⟩ (ct_X7_comes l n g m_now m_kept m_aside m_isKept m_found m_steps m_queue m_lives m_treads m_tape m_taped m_begins m_ends m_sort m_value m_isWrong m_items m_itemMany m_seedThen m_groundThen m_widths m_sizes m_numbers m_moved a1 a2 a3 (0 : Int32) q15 hq15) (cwV 4 hts gX7_sow_X7_comes rfl rfl rfl hd_X7_comes ⟨Nat.le_of_ble_eq_true rfl, Nat.le_of_ble_eq_true rfl⟩) ⟨bl_M, va_recv hK hP (ci := 5) (q0 := 0) rfl k_md, pr_M rfl hB hP hS⟩ rfl rfl hl.1 rfl (lv_room (Nat.le_of_ble_eq_true rfl)) dX7_sow_53 ⟨Nat.le_refl _, Nat.le_refl _⟩) hS rfl (fun hn16 H locs hP hS => ?_)
          have hP : va_P g.1 vwCl (mw g (q15.2, m_kept, m_aside, m_isKept, m_found, m_steps, m_queue, m_lives, m_treads, m_tape, m_taped, m_begins, m_ends, m_sort, m_value, m_isWrong, m_items, m_itemMany, m_seedThen, m_groundThen, m_widths, m_sizes, m_numbers, m_moved)) H := hP
          have hres : (q15.1, q15.2, m_found) = res := (Option.some.inj hf)
          have hP := w_eq (congrArg (fun z => mw g (z.2.1, m_kept, m_aside, m_isKept, z.2.2, m_steps, m_queue, m_lives, m_treads, m_tape, m_taped, m_begins, m_ends, m_sort, m_value, m_isWrong, m_items, m_itemMany, m_seedThen, m_groundThen, m_widths, m_sizes, m_numbers, m_moved)) hres) hP
          exact W.iret (v := q15.1) hx hb hr (fun t ht hW => ⟨congrArg (fun z => Outcome.returned (some (Value.int z.1))) hres, trivial, by rw [ht]; exact hP, hS.F ht⟩) hS.2.2 dX7_sow_56
        · have hf := (if_pos hc14).symm.trans hf
          refine lv_aload_n hx hb dX7_sow_39 rfl (lv_at hl 0 rfl) ?_
          refine lv_ldc (v := (-1000002 : Int32)) hx hb hown hw2 dX7_sow_40 ?_
          obtain ⟨q17, hq17, hf⟩ := bd_some hf
          refine kr_W (st1 := [.int q17.1]) (va_runV (As := [.int (-1000002 : Int32)]) (rest := []) ⟨hx, hb, hml, hown, hts⟩ (ct_X7_finding l n g m_now m_kept m_aside m_isKept m_found m_steps m_queue m_lives m_treads m_tape m_taped m_begins m_ends m_sort m_value m_isWrong m_items m_itemMany m_seedThen m_groundThen m_widths m_sizes m_numbers m_moved (-1000002 : Int32) q17 hq17) (cwV 1 hts gX7_sow_X7_finding rfl rfl rfl hd_X7_finding ⟨Nat.le_of_ble_eq_true rfl, Nat.le_of_ble_eq_true rfl⟩) ⟨bl_M, va_recv hK hP (ci := 5) (q0 := 0) rfl k_md, pr_M rfl hB hP hS⟩ rfl rfl hl.1 rfl (lv_room (Nat.le_of_ble_eq_true rfl)) dX7_sow_42 ⟨Nat.le_refl _, Nat.le_refl _⟩) hS rfl (fun hn18 H locs hP hS => ?_)
          have hP : va_P g.1 vwCl (mw g (m_now, m_kept, m_aside, m_isKept, q17.2, m_steps, m_queue, m_lives, m_treads, m_tape, m_taped, m_begins, m_ends, m_sort, m_value, m_isWrong, m_items, m_itemMany, m_seedThen, m_groundThen, m_widths, m_sizes, m_numbers, m_moved)) H := hP
          refine lv_goto (tgt := 56) hx hb dX7_sow_45 (by decide) ?_
          have hres : (q17.1, m_now, q17.2) = res := (Option.some.inj hf)
          have hP := w_eq (congrArg (fun z => mw g (z.2.1, m_kept, m_aside, m_isKept, z.2.2, m_steps, m_queue, m_lives, m_treads, m_tape, m_taped, m_begins, m_ends, m_sort, m_value, m_isWrong, m_items, m_itemMany, m_seedThen, m_groundThen, m_widths, m_sizes, m_numbers, m_moved)) hres) hP
          exact W.iret (v := q17.1) hx hb hr (fun t ht hW => ⟨congrArg (fun z => Outcome.returned (some (Value.int z.1))) hres, trivial, by rw [ht]; exact hP, hS.F ht⟩) hS.2.2 dX7_sow_56
      · have hf := (if_pos hc13).symm.trans hf
        refine lv_aload_n hx hb dX7_sow_21 rfl (lv_at hl 0 rfl) ?_
        refine lv_ldc (v := (-1000001 : Int32)) hx hb hown hw0 dX7_sow_22 ?_
        obtain ⟨q19, hq19, hf⟩ := bd_some hf
        refine kr_W (st1 := [.int q19.1]) (va_runV (As := [.int (-1000001 : Int32)]) (rest := []) ⟨hx, hb, hml, hown, hts⟩ (ct_X7_finding l n g m_now m_kept m_aside m_isKept m_found m_steps m_queue m_lives m_treads m_tape m_taped m_begins m_ends m_sort m_value m_isWrong m_items m_itemMany m_seedThen m_groundThen m_widths m_sizes m_numbers m_moved (-1000001 : Int32) q19 hq19) (cwV 1 hts gX7_sow_X7_finding rfl rfl rfl hd_X7_finding ⟨Nat.le_of_ble_eq_true rfl, Nat.le_of_ble_eq_true rfl⟩) ⟨bl_M, va_recv hK hP (ci := 5) (q0 := 0) rfl k_md, pr_M rfl hB hP hS⟩ rfl rfl hl.1 rfl (lv_room (Nat.le_of_ble_eq_true rfl)) dX7_sow_24 ⟨Nat.le_refl _, Nat.le_refl _⟩) hS rfl (fun hn20 H locs hP hS => ?_)
        have hP : va_P g.1 vwCl (mw g (m_now, m_kept, m_aside, m_isKept, q19.2, m_steps, m_queue, m_lives, m_treads, m_tape, m_taped, m_begins, m_ends, m_sort, m_value, m_isWrong, m_items, m_itemMany, m_seedThen, m_groundThen, m_widths, m_sizes, m_numbers, m_moved)) H := hP
        have hres : (q19.1, m_now, q19.2) = res := (Option.some.inj hf)
        have hP := w_eq (congrArg (fun z => mw g (z.2.1, m_kept, m_aside, m_isKept, z.2.2, m_steps, m_queue, m_lives, m_treads, m_tape, m_taped, m_begins, m_ends, m_sort, m_value, m_isWrong, m_items, m_itemMany, m_seedThen, m_groundThen, m_widths, m_sizes, m_numbers, m_moved)) hres) hP
        exact W.iret (v := q19.1) hx hb hr (fun t ht hW => ⟨congrArg (fun z => Outcome.returned (some (Value.int z.1))) hres, trivial, by rw [ht]; exact hP, hS.F ht⟩) hS.2.2 dX7_sow_27
set_option maxHeartbeats 4000000 in
set_option maxRecDepth 100000 in
theorem ct_X7_isAlive (l : Launch) (n : Nat) (g : GM) (m_now : Nat → Int32) (m_kept : Nat → Int32) (m_aside : Nat → Int32) (m_isKept : Int32) (m_found : Nat → Int32) (m_steps : Nat → Int32) (m_queue : Nat → Int32) (m_lives : Nat → Int32) (m_treads : Nat → Int32) (m_tape : Nat → Int32) (m_taped : Int32) (m_begins : Int32) (m_ends : Int32) (m_sort : Int32) (m_value : Int32) (m_isWrong : Int32) (m_items : Nat → Int32) (m_itemMany : Int32) (m_seedThen : Int32) (m_groundThen : Nat → Int32) (m_widths : Nat → Int32) (m_sizes : Nat → Int32) (m_numbers : Nat → Int32) (m_moved : Nat → Int32) (a1 : Int32) (res : Int32) (hf : fX7_isAlive n a1 m_now m_lives = some res) : Met l yX7_isAlive wsX7_isAlive ({ frames := 2, cells := 0, slots := 0, locals := 43 }) (va_Pc [.ref (gm g 0), .int a1] (mI g (m_now, m_kept, m_aside, m_isKept, m_found, m_steps, m_queue, m_lives, m_treads, m_tape, m_taped, m_begins, m_ends, m_sort, m_value, m_isWrong, m_items, m_itemMany, m_seedThen, m_groundThen, m_widths, m_sizes, m_numbers, m_moved))) (qS (some (.int res)) (narrow .boolean (.int res) = .int res)) 0 0 (fun _ => False) := by
  refine Met.ofW (cc := cX7_isAlive) (maxL := 2) (ret := (some .boolean)) (by decide) rfl ?_
  intro p e s m args below meth c s₁ B hml hv
  obtain ⟨rfl, hI⟩ := hv
  have hx := B.exec
  have hb := B.bytes
  have hr := B.returns
  have hts := atoms_spec (ws := wsX7_isAlive) B.pre
  have hown : s.vm.findClass RX7 = some m.cls := findClass_of_methodNamed B.named
  have hlocks := B.notSynchronized
  have hP := hI.1
  have hB := hI.2
  have hK := hB.1
  have hNW := hB.2.1
  have hS : va_S (mA g) s.heap s.heap [] := va_S.rf
  have hw0 := hts (.fieldLink RX7 28 "SownPathsModel" "lives" "[I") (by decide +kernel)
  have iwX7 : ∀ w ∈ wsX70, w ∈ wsX7_isAlive := fun w h => List.mem_cons_of_mem _ (List.mem_append_right _ h)
  have hl := lv_entry ([.ref (gm g 0), .int a1]) (n := 2) (Nat.le_of_ble_eq_true rfl)
  rw [lg_entry_eq]
  generalize (lg_sl ([.ref (gm g 0), .int a1]) ++ List.replicate (2 - (lg_sl ([.ref (gm g 0), .int a1])).length) Slot.unset).toArray = ls at hl ⊢
  have hl : lv_has ls 2 [(0, .ref (gm g 0)), (1, .int a1)] := hl
  unfold fX7_isAlive at hf
  refine lv_aload_n hx hb dX7_isAlive_0 rfl (lv_at hl 0 rfl) ?_
  refine lv_iload_n hx hb dX7_isAlive_1 rfl (lv_at hl 1 rfl) ?_
  refine lv_iconst (v := (3 : Int32)) hx hb dX7_isAlive_2 (by decide) ?_
  obtain ⟨q1, hq1, hf⟩ := bd_some hf
  refine kr_S (st1 := [.int q1]) (va_runV (As := [.int a1, .int (3 : Int32)]) (rest := []) ⟨hx, hb, hml, hown, hts⟩ (ct_X7_seedIs l n g m_now m_kept m_aside m_isKept m_found m_steps m_queue m_lives m_treads m_tape m_taped m_begins m_ends m_sort m_value m_isWrong m_items m_itemMany m_seedThen m_groundThen m_widths m_sizes m_numbers m_moved a1 (3 : Int32) q1 hq1) (cwV 2 hts gX7_isAlive_X7_seedIs rfl rfl rfl hd_X7_seedIs ⟨Nat.le_of_ble_eq_true rfl, Nat.le_of_ble_eq_true rfl⟩) ⟨bl_M, va_recv hK hP (ci := 5) (q0 := 0) rfl k_md, pr_M rfl hB hP hS⟩ rfl rfl hl.1 rfl (lv_room (Nat.le_of_ble_eq_true rfl)) dX7_isAlive_3 ⟨Nat.le_refl _, Nat.le_refl _⟩) rfl (fun hn2 => ?_)
  refine lv_aload_n hx hb dX7_isAlive_6 rfl (lv_at hl 0 rfl) ?_
  refine va_get (D := g.1) (ci := 5) (v := .ref (gm g 7)) (C := RX7) (T := TX7) (N := 27) hx hb hts iwX7 hown hK hP 0 k_md rfl 7 (by decide) hw0 (fun _ h9 => h9) rfl dX7_isAlive_7 ?_
  refine lv_aload_n hx hb dX7_isAlive_10 rfl (lv_at hl 0 rfl) ?_
  refine lv_iload_n hx hb dX7_isAlive_11 rfl (lv_at hl 1 rfl) ?_
  refine lv_iconst (v := (0 : Int32)) hx hb dX7_isAlive_12 (by decide) ?_
  obtain ⟨q3, hq3, hf⟩ := bd_some hf
  refine kr_S (st1 := [.int q3, .ref (gm g 7), .int q1]) (va_runV (As := [.int a1, .int (0 : Int32)]) (rest := [.ref (gm g 7), .int q1]) ⟨hx, hb, hml, hown, hts⟩ (ct_X7_seedIs l n g m_now m_kept m_aside m_isKept m_found m_steps m_queue m_lives m_treads m_tape m_taped m_begins m_ends m_sort m_value m_isWrong m_items m_itemMany m_seedThen m_groundThen m_widths m_sizes m_numbers m_moved a1 (0 : Int32) q3 hq3) (cwV 2 hts gX7_isAlive_X7_seedIs rfl rfl rfl hd_X7_seedIs ⟨Nat.le_of_ble_eq_true rfl, Nat.le_of_ble_eq_true rfl⟩) ⟨bl_M, va_recv hK hP (ci := 5) (q0 := 0) rfl k_md, pr_M rfl hB hP hS⟩ rfl rfl hl.1 rfl (lv_room (Nat.le_of_ble_eq_true rfl)) dX7_isAlive_13 ⟨Nat.le_refl _, Nat.le_refl _⟩) rfl (fun hn4 => ?_)
  obtain ⟨hg5, hf⟩ := gd_some hf
  refine va_iald (f := m_lives) hx hb hK hP 7 0 k_lives rfl hg5 dX7_isAlive_16 ?_
  refine lv_icmp_ge (tgt := 24) hx hb dX7_isAlive_17 (by decide) (fun hc6 => ?_) (fun hc6 => ?_)
  · have hf := (if_pos hc6).symm.trans hf
    refine lv_iconst (v := (0 : Int32)) hx hb dX7_isAlive_24 (by decide) ?_
    have hres : (0 : Int32) = res := (Option.some.inj hf)
    have hnr : narrow .boolean (.int (0 : Int32)) = .int (0 : Int32) := rfl
    exact W.zret (v := (0 : Int32)) hx hb hr hnr (fun t ht hW => ⟨congrArg (fun z => Outcome.returned (some (Value.int z))) hres, Eq.mp (congrArg (fun z => narrow .boolean (.int z) = .int z) hres) hnr, ht⟩) t_nil dX7_isAlive_25
  · have hf := (if_neg hc6).symm.trans hf
    refine lv_iconst (v := (1 : Int32)) hx hb dX7_isAlive_20 (by decide) ?_
    refine lv_goto (tgt := 25) hx hb dX7_isAlive_21 (by decide) ?_
    have hres : (1 : Int32) = res := (Option.some.inj hf)
    have hnr : narrow .boolean (.int (1 : Int32)) = .int (1 : Int32) := rfl
    exact W.zret (v := (1 : Int32)) hx hb hr hnr (fun t ht hW => ⟨congrArg (fun z => Outcome.returned (some (Value.int z))) hres, Eq.mp (congrArg (fun z => narrow .boolean (.int z) = .int z) hres) hnr, ht⟩) t_nil dX7_isAlive_25
set_option maxHeartbeats 4000000 in
set_option maxRecDepth 100000 in
theorem ct_X7_apartOf (l : Launch) (n : Nat) (a0 : Int32) (a1 : Int32) (res : Int32) (hf : fX7_apartOf n a0 a1 = some res) : Met l yX7_apartOf wsX7_apartOf ({ frames := 1, cells := 0, slots := 0, locals := 24 }) (va_Pc [.int a0, .int a1] NW) (qS (some (.int res)) True) 0 0 (fun _ => False) := by
  refine Met.ofW (cc := cX7_apartOf) (maxL := 2) (ret := (some .int)) (by decide) rfl ?_
  intro p e s m args below meth c s₁ B hml hv
  obtain ⟨rfl, hI⟩ := hv
  have hx := B.exec
  have hb := B.bytes
  have hr := B.returns
  have hts := atoms_spec (ws := wsX7_apartOf) B.pre
  have hown : s.vm.findClass RX7 = some m.cls := findClass_of_methodNamed B.named
  have hlocks := B.notSynchronized
  have hNW : NW s := hI
  have hw0 := hts (.methodLink RX7 156 Lib.Math.abs.name) (by decide +kernel)
  have hw1 := hts (.static Lib.Math.abs.name) (by decide +kernel)
  have hw2 := hts (.initialized "java/lang/Math") (by decide +kernel)
  have hw3 := hts (.code Lib.Math.abs.name Lib.Math.abs.code 1 (some .int)) (by decide +kernel)
  have hl := lv_entry ([.int a0, .int a1]) (n := 2) (Nat.le_of_ble_eq_true rfl)
  rw [lg_entry_eq]
  generalize (lg_sl ([.int a0, .int a1]) ++ List.replicate (2 - (lg_sl ([.int a0, .int a1])).length) Slot.unset).toArray = ls at hl ⊢
  have hl : lv_has ls 2 [(0, .int a0), (1, .int a1)] := hl
  unfold fX7_apartOf at hf
  refine lv_iload_n hx hb dX7_apartOf_0 rfl (lv_at hl 0 rfl) ?_
  refine lv_bipush (v := (6 : Int32)) hx hb dX7_apartOf_1 (by decide) ?_
  refine lv_idiv hx hb dX7_apartOf_3 (by decide) ?_
  refine lv_iload_n hx hb dX7_apartOf_4 rfl (lv_at hl 1 rfl) ?_
  refine lv_bipush (v := (6 : Int32)) hx hb dX7_apartOf_5 (by decide) ?_
  refine lv_idiv hx hb dX7_apartOf_7 (by decide) ?_
  refine lv_isub hx hb dX7_apartOf_8 ?_
  refine va_mabs hx hb (hml.trans hl.1.symm) hown hw0 hw1 hw2 hw3 (Nat.le_of_ble_eq_true rfl) (Nat.le_of_ble_eq_true rfl) (Nat.le_of_ble_eq_true rfl) (Nat.le_of_ble_eq_true rfl) dX7_apartOf_9 ?_
  refine lv_iload_n hx hb dX7_apartOf_12 rfl (lv_at hl 0 rfl) ?_
  refine lv_bipush (v := (6 : Int32)) hx hb dX7_apartOf_13 (by decide) ?_
  refine lv_irem hx hb dX7_apartOf_15 (by decide) ?_
  refine lv_iload_n hx hb dX7_apartOf_16 rfl (lv_at hl 1 rfl) ?_
  refine lv_bipush (v := (6 : Int32)) hx hb dX7_apartOf_17 (by decide) ?_
  refine lv_irem hx hb dX7_apartOf_19 (by decide) ?_
  refine lv_isub hx hb dX7_apartOf_20 ?_
  refine va_mabs hx hb (hml.trans hl.1.symm) hown hw0 hw1 hw2 hw3 (Nat.le_of_ble_eq_true rfl) (Nat.le_of_ble_eq_true rfl) (Nat.le_of_ble_eq_true rfl) (Nat.le_of_ble_eq_true rfl) dX7_apartOf_21 ?_
  refine lv_iadd hx hb dX7_apartOf_24 ?_
  have hres : ((if 0 ≤ ((a0 / (6 : Int32)) - (a1 / (6 : Int32))) then ((a0 / (6 : Int32)) - (a1 / (6 : Int32))) else 0 - ((a0 / (6 : Int32)) - (a1 / (6 : Int32)))) + (if 0 ≤ ((a0 - a0 / (6 : Int32) * (6 : Int32)) - (a1 - a1 / (6 : Int32) * (6 : Int32))) then ((a0 - a0 / (6 : Int32) * (6 : Int32)) - (a1 - a1 / (6 : Int32) * (6 : Int32))) else 0 - ((a0 - a0 / (6 : Int32) * (6 : Int32)) - (a1 - a1 / (6 : Int32) * (6 : Int32))))) = res := (Option.some.inj hf)
  exact W.iret (v := ((if 0 ≤ ((a0 / (6 : Int32)) - (a1 / (6 : Int32))) then ((a0 / (6 : Int32)) - (a1 / (6 : Int32))) else 0 - ((a0 / (6 : Int32)) - (a1 / (6 : Int32)))) + (if 0 ≤ ((a0 - a0 / (6 : Int32) * (6 : Int32)) - (a1 - a1 / (6 : Int32) * (6 : Int32))) then ((a0 - a0 / (6 : Int32) * (6 : Int32)) - (a1 - a1 / (6 : Int32) * (6 : Int32))) else 0 - ((a0 - a0 / (6 : Int32) * (6 : Int32)) - (a1 - a1 / (6 : Int32) * (6 : Int32)))))) hx hb hr (fun t ht hW => ⟨congrArg (fun z => Outcome.returned (some (Value.int z))) hres, trivial, ht⟩) t_nil dX7_apartOf_25
set_option maxHeartbeats 4000000 in
set_option maxRecDepth 100000 in
theorem ct_X7_toward (l : Launch) (n : Nat) (a0 : Int32) (a1 : Int32) (res : Int32) (hf : fX7_toward n a0 a1 = some res) : Met l yX7_toward wsX7_toward ({ frames := 2, cells := 0, slots := 0, locals := 45 }) (va_Pc [.int a0, .int a1] NW) (qS (some (.int res)) True) 0 0 (fun _ => False) := by
  refine Met.ofW (cc := cX7_toward) (maxL := 3) (ret := (some .int)) (by decide) rfl ?_
  intro p e s m args below meth c s₁ B hml hv
  obtain ⟨rfl, hI⟩ := hv
  have hx := B.exec
  have hb := B.bytes
  have hr := B.returns
  have hts := atoms_spec (ws := wsX7_toward) B.pre
  have hown : s.vm.findClass RX7 = some m.cls := findClass_of_methodNamed B.named
  have hlocks := B.notSynchronized
  have hNW : NW s := hI
  have hl := lv_entry ([.int a0, .int a1]) (n := 3) (Nat.le_of_ble_eq_true rfl)
  rw [lg_entry_eq]
  generalize (lg_sl ([.int a0, .int a1]) ++ List.replicate (3 - (lg_sl ([.int a0, .int a1])).length) Slot.unset).toArray = ls at hl ⊢
  have hl : lv_has ls 3 [(0, .int a0), (1, .int a1)] := hl
  unfold fX7_toward at hf
  refine lv_iconst (v := (0 : Int32)) hx hb dX7_toward_0 (by decide) ?_
  refine lv_istore_n (lv' := [(2, .int (0 : Int32)), (0, .int a0), (1, .int a1)]) hx hb dX7_toward_1 rfl hl (by decide) rfl (fun ls hl => ?_)
  refine lp_run hf (fun s1 => ∀ (ls : Array Slot), lv_has ls 3 [(0, .int a0), (1, .int a1), (2, .int s1)] → W p l e (headSpec wsX7_toward ({ frames := 2, cells := 0, slots := 0, locals := 45 })).room s m ([.int a0, .int a1] : List Value).toArray below meth c s.heap [] 0 0 (MQ below (qS (some (.int res)) True) ([.int a0, .int a1] : List Value).toArray s 0 0 (fun _ => False)) (F0 m 2 ls [])) (fun v2 => ∀ (ls : Array Slot), lv_has ls 3 [(2, .int v2)] → W p l e (headSpec wsX7_toward ({ frames := 2, cells := 0, slots := 0, locals := 45 })).room s m ([.int a0, .int a1] : List Value).toArray below meth c s.heap [] 0 0 (MQ below (qS (some (.int res)) True) ([.int a0, .int a1] : List Value).toArray s 0 0 (fun _ => False)) (F0 m 33 ls [])) ?_ ?_ _ (lv_sub hl [1, 2, 0] rfl)
  · intro v2 hf ls hl
    refine lv_iload_n hx hb dX7_toward_33 rfl (lv_at hl 0 rfl) ?_
    have hres : v2 = res := (Option.some.inj hf)
    exact W.iret (v := v2) hx hb hr (fun t ht hW => ⟨congrArg (fun z => Outcome.returned (some (Value.int z))) hres, trivial, ht⟩) t_nil dX7_toward_34
  · intro s1 r1 hf hback1 hexit1 ls hl
    refine lv_iload_n hx hb dX7_toward_2 rfl (lv_at hl 0 rfl) ?_
    refine lv_iload_n hx hb dX7_toward_3 rfl (lv_at hl 2 rfl) ?_
    obtain ⟨q3, hq3, hf⟩ := bd_some hf
    refine kr_S (st1 := [.int q3]) (va_runS (As := [.int a0, .int s1]) (rest := []) ⟨hx, hb, hml, hown, hts⟩ (ct_X7_beside l n a0 s1 q3 hq3) (va_cwS 2 hts gX7_toward_X7_beside rfl rfl rfl hn_X7_beside ⟨Nat.le_of_ble_eq_true rfl, Nat.le_of_ble_eq_true rfl⟩) ⟨bl_N, pr_N rfl hNW⟩ rfl rfl hl.1 rfl (lv_room (Nat.le_of_ble_eq_true rfl)) dX7_toward_4 ⟨Nat.le_refl _, Nat.le_refl _⟩) rfl (fun hn4 => ?_)
    refine lv_if_lt (tgt := 27) hx hb dX7_toward_7 (by decide) (fun hc5 => ?_) (fun hc5 => ?_)
    · have hf := (if_pos hc5).symm.trans hf
      refine lv_iinc (v := (s1 + (1 : Int32))) (lv' := [(2, .int (s1 + (1 : Int32))), (0, .int a0), (1, .int a1)]) hx hb dX7_toward_27 hl (k := 2) rfl (congrArg (fun y => s1 + y) (by decide : Int32.ofInt (1) = (1 : Int32))) (by decide) rfl (fun ls hl => ?_)
      refine lv_goto (tgt := 2) hx hb dX7_toward_30 (by decide) ?_
      exact hback1 _ (Option.some.inj hf).symm ls (lv_sub hl [1, 2, 0] rfl)
    · have hf := (if_neg hc5).symm.trans hf
      refine lv_iload_n hx hb dX7_toward_10 rfl (lv_at hl 0 rfl) ?_
      refine lv_iload_n hx hb dX7_toward_11 rfl (lv_at hl 2 rfl) ?_
      obtain ⟨q6, hq6, hf⟩ := bd_some hf
      refine kr_S (st1 := [.int q6]) (va_runS (As := [.int a0, .int s1]) (rest := []) ⟨hx, hb, hml, hown, hts⟩ (ct_X7_beside l n a0 s1 q6 hq6) (va_cwS 2 hts gX7_toward_X7_beside rfl rfl rfl hn_X7_beside ⟨Nat.le_of_ble_eq_true rfl, Nat.le_of_ble_eq_true rfl⟩) ⟨bl_N, pr_N rfl hNW⟩ rfl rfl hl.1 rfl (lv_room (Nat.le_of_ble_eq_true rfl)) dX7_toward_12 ⟨Nat.le_refl _, Nat.le_refl _⟩) rfl (fun hn7 => ?_)
      refine lv_iload_n hx hb dX7_toward_15 rfl (lv_at hl 1 rfl) ?_
      obtain ⟨q8, hq8, hf⟩ := bd_some hf
      refine kr_S (st1 := [.int q8]) (va_runS (As := [.int q6, .int a1]) (rest := []) ⟨hx, hb, hml, hown, hts⟩ (ct_X7_apartOf l n q6 a1 q8 hq8) (va_cwS 2 hts gX7_toward_X7_apartOf rfl rfl rfl hn_X7_apartOf ⟨Nat.le_of_ble_eq_true rfl, Nat.le_of_ble_eq_true rfl⟩) ⟨bl_N, pr_N rfl hNW⟩ rfl rfl hl.1 rfl (lv_room (Nat.le_of_ble_eq_true rfl)) dX7_toward_16 ⟨Nat.le_refl _, Nat.le_refl _⟩) rfl (fun hn9 => ?_)
      refine lv_iload_n hx hb dX7_toward_19 rfl (lv_at hl 0 rfl) ?_
      refine lv_iload_n hx hb dX7_toward_20 rfl (lv_at hl 1 rfl) ?_
      obtain ⟨q10, hq10, hf⟩ := bd_some hf
      refine kr_S (st1 := [.int q10, .int q8]) (va_runS (As := [.int a0, .int a1]) (rest := [.int q8]) ⟨hx, hb, hml, hown, hts⟩ (ct_X7_apartOf l n a0 a1 q10 hq10) (va_cwS 2 hts gX7_toward_X7_apartOf rfl rfl rfl hn_X7_apartOf ⟨Nat.le_of_ble_eq_true rfl, Nat.le_of_ble_eq_true rfl⟩) ⟨bl_N, pr_N rfl hNW⟩ rfl rfl hl.1 rfl (lv_room (Nat.le_of_ble_eq_true rfl)) dX7_toward_21 ⟨Nat.le_refl _, Nat.le_refl _⟩) rfl (fun hn11 => ?_)
      refine lv_icmp_lt (tgt := 33) hx hb dX7_toward_24 (by decide) (fun hc12 => ?_) (fun hc12 => ?_)
      · have hf := (if_pos hc12).symm.trans hf
        exact hexit1 s1 (Option.some.inj hf).symm ls (lv_sub hl [2] rfl)
      · have hf := (if_neg hc12).symm.trans hf
        refine lv_iinc (v := (s1 + (1 : Int32))) (lv' := [(2, .int (s1 + (1 : Int32))), (0, .int a0), (1, .int a1)]) hx hb dX7_toward_27 hl (k := 2) rfl (congrArg (fun y => s1 + y) (by decide : Int32.ofInt (1) = (1 : Int32))) (by decide) rfl (fun ls hl => ?_)
        refine lv_goto (tgt := 2) hx hb dX7_toward_30 (by decide) ?_
        exact hback1 _ (Option.some.inj hf).symm ls (lv_sub hl [1, 2, 0] rfl)
set_option maxHeartbeats 4000000 in
set_option maxRecDepth 100000 in
theorem ct_X7_nearestWater (l : Launch) (n : Nat) (g : GM) (m_now : Nat → Int32) (m_kept : Nat → Int32) (m_aside : Nat → Int32) (m_isKept : Int32) (m_found : Nat → Int32) (m_steps : Nat → Int32) (m_queue : Nat → Int32) (m_lives : Nat → Int32) (m_treads : Nat → Int32) (m_tape : Nat → Int32) (m_taped : Int32) (m_begins : Int32) (m_ends : Int32) (m_sort : Int32) (m_value : Int32) (m_isWrong : Int32) (m_items : Nat → Int32) (m_itemMany : Int32) (m_seedThen : Int32) (m_groundThen : Nat → Int32) (m_widths : Nat → Int32) (m_sizes : Nat → Int32) (m_numbers : Nat → Int32) (m_moved : Nat → Int32) (a1 : Int32) (res : Int32) (hf : fX7_nearestWater n a1 m_now = some res) : Met l yX7_nearestWater wsX7_nearestWater ({ frames := 2, cells := 0, slots := 0, locals := 45 }) (va_Pc [.ref (gm g 0), .int a1] (mI g (m_now, m_kept, m_aside, m_isKept, m_found, m_steps, m_queue, m_lives, m_treads, m_tape, m_taped, m_begins, m_ends, m_sort, m_value, m_isWrong, m_items, m_itemMany, m_seedThen, m_groundThen, m_widths, m_sizes, m_numbers, m_moved))) (qS (some (.int res)) True) 0 0 (fun _ => False) := by
  refine Met.ofW (cc := cX7_nearestWater) (maxL := 5) (ret := (some .int)) (by decide) rfl ?_
  intro p e s m args below meth c s₁ B hml hv
  obtain ⟨rfl, hI⟩ := hv
  have hx := B.exec
  have hb := B.bytes
  have hr := B.returns
  have hts := atoms_spec (ws := wsX7_nearestWater) B.pre
  have hown : s.vm.findClass RX7 = some m.cls := findClass_of_methodNamed B.named
  have hlocks := B.notSynchronized
  have hP := hI.1
  have hB := hI.2
  have hK := hB.1
  have hNW := hB.2.1
  have hS : va_S (mA g) s.heap s.heap [] := va_S.rf
  have hw0 := hts (.fieldLink RX7 9 "SownPathsModel" "now" "[I") (by decide +kernel)
  have iwX7 : ∀ w ∈ wsX70, w ∈ wsX7_nearestWater := fun w h => List.mem_cons_of_mem _ (List.mem_append_right _ h)
  have hl := lv_entry ([.ref (gm g 0), .int a1]) (n := 5) (Nat.le_of_ble_eq_true rfl)
  rw [lg_entry_eq]
  generalize (lg_sl ([.ref (gm g 0), .int a1]) ++ List.replicate (5 - (lg_sl ([.ref (gm g 0), .int a1])).length) Slot.unset).toArray = ls at hl ⊢
  have hl : lv_has ls 5 [(0, .ref (gm g 0)), (1, .int a1)] := hl
  unfold fX7_nearestWater at hf
  refine lv_iconst (v := (-1 : Int32)) hx hb dX7_nearestWater_0 (by decide) ?_
  refine lv_istore_n (lv' := [(2, .int (-1 : Int32)), (0, .ref (gm g 0)), (1, .int a1)]) hx hb dX7_nearestWater_1 rfl hl (by decide) rfl (fun ls hl => ?_)
  refine lv_iconst (v := (0 : Int32)) hx hb dX7_nearestWater_2 (by decide) ?_
  refine lv_istore_n (lv' := [(3, .int (0 : Int32)), (2, .int (-1 : Int32)), (0, .ref (gm g 0)), (1, .int a1)]) hx hb dX7_nearestWater_3 rfl hl (by decide) rfl (fun ls hl => ?_)
  refine lp_run hf (fun s1 => ∀ (ls : Array Slot), lv_has ls 5 [(0, .ref (gm g 0)), (1, .int a1), (2, .int s1.1), (3, .int s1.2)] → W p l e (headSpec wsX7_nearestWater ({ frames := 2, cells := 0, slots := 0, locals := 45 })).room s m ([.ref (gm g 0), .int a1] : List Value).toArray below meth c s.heap [] 0 0 (MQ below (qS (some (.int res)) True) ([.ref (gm g 0), .int a1] : List Value).toArray s 0 0 (fun _ => False)) (F0 m 4 ls [])) (fun v2 => ∀ (ls : Array Slot), lv_has ls 5 [(2, .int v2.1)] → W p l e (headSpec wsX7_nearestWater ({ frames := 2, cells := 0, slots := 0, locals := 45 })).room s m ([.ref (gm g 0), .int a1] : List Value).toArray below meth c s.heap [] 0 0 (MQ below (qS (some (.int res)) True) ([.ref (gm g 0), .int a1] : List Value).toArray s 0 0 (fun _ => False)) (F0 m 64 ls [])) ?_ ?_ _ (lv_sub hl [2, 3, 1, 0] rfl)
  · intro v2 hf ls hl
    refine lv_iload_n hx hb dX7_nearestWater_64 rfl (lv_at hl 0 rfl) ?_
    have hres : v2.1 = res := (Option.some.inj hf)
    exact W.iret (v := v2.1) hx hb hr (fun t ht hW => ⟨congrArg (fun z => Outcome.returned (some (Value.int z))) hres, trivial, ht⟩) t_nil dX7_nearestWater_65
  · intro s1 r1 hf hback1 hexit1 ls hl
    refine lv_iload_n hx hb dX7_nearestWater_4 rfl (lv_at hl 3 rfl) ?_
    refine lv_bipush (v := (36 : Int32)) hx hb dX7_nearestWater_5 (by decide) ?_
    refine lv_icmp_ge (tgt := 64) hx hb dX7_nearestWater_7 (by decide) (fun hc3 => ?_) (fun hc3 => ?_)
    · have hf := (if_pos hc3).symm.trans hf
      exact hexit1 (s1.1, s1.2) (Option.some.inj hf).symm ls (lv_sub hl [2] rfl)
    · have hf := (if_neg hc3).symm.trans hf
      refine lv_aload_n hx hb dX7_nearestWater_10 rfl (lv_at hl 0 rfl) ?_
      refine va_get (D := g.1) (ci := 5) (v := .ref (gm g 1)) (C := RX7) (T := TX7) (N := 27) hx hb hts iwX7 hown hK hP 0 k_md rfl 0 (by decide) hw0 (fun _ h9 => h9) rfl dX7_nearestWater_11 ?_
      refine lv_bipush (v := (13 : Int32)) hx hb dX7_nearestWater_14 (by decide) ?_
      refine lv_iload_n hx hb dX7_nearestWater_16 rfl (lv_at hl 3 rfl) ?_
      refine lv_iadd hx hb dX7_nearestWater_17 ?_
      obtain ⟨hg4, hf⟩ := gd_some hf
      refine va_iald (f := m_now) hx hb hK hP 1 0 k_now rfl hg4 dX7_nearestWater_18 ?_
      refine lv_iconst (v := (1 : Int32)) hx hb dX7_nearestWater_19 (by decide) ?_
      refine lv_icmp_ne (tgt := 27) hx hb dX7_nearestWater_20 (by decide) (fun hc5 => ?_) (fun hc5 => ?_)
      · have hf := (if_neg hc5).symm.trans hf
        refine lv_iconst (v := (0 : Int32)) hx hb dX7_nearestWater_27 (by decide) ?_
        refine lv_istore (lv' := [(4, .int (0 : Int32)), (0, .ref (gm g 0)), (1, .int a1), (2, .int s1.1), (3, .int s1.2)]) hx hb dX7_nearestWater_28 hl (by decide) rfl (fun ls hl => ?_)
        refine lv_iload hx hb dX7_nearestWater_30 (lv_at hl 0 rfl) ?_
        refine lv_if_eq (tgt := 56) hx hb dX7_nearestWater_32 (by decide) (fun _ => ?_) (fun hc => absurd hc (by decide))
        refine lv_iload_n hx hb dX7_nearestWater_56 rfl (lv_at hl 3 rfl) ?_
        refine lv_istore_n (lv' := [(2, .int s1.1), (4, .int (0 : Int32)), (0, .ref (gm g 0)), (1, .int a1), (3, .int s1.2)]) hx hb dX7_nearestWater_57 rfl hl (by decide) rfl (fun ls hl => ?_)
        refine lv_iinc (v := (s1.2 + (1 : Int32))) (lv' := [(3, .int (s1.2 + (1 : Int32))), (2, .int s1.1), (4, .int (0 : Int32)), (0, .ref (gm g 0)), (1, .int a1)]) hx hb dX7_nearestWater_58 hl (k := 4) rfl (congrArg (fun y => s1.2 + y) (by decide : Int32.ofInt (1) = (1 : Int32))) (by decide) rfl (fun ls hl => ?_)
        refine lv_goto (tgt := 4) hx hb dX7_nearestWater_61 (by decide) ?_
        exact hback1 _ (Option.some.inj hf).symm ls (lv_sub hl [3, 4, 1, 0] rfl)
      · have hf := (if_pos hc5).symm.trans hf
        refine lv_iconst (v := (1 : Int32)) hx hb dX7_nearestWater_23 (by decide) ?_
        refine lv_goto (tgt := 28) hx hb dX7_nearestWater_24 (by decide) ?_
        refine lv_istore (lv' := [(4, .int (1 : Int32)), (0, .ref (gm g 0)), (1, .int a1), (2, .int s1.1), (3, .int s1.2)]) hx hb dX7_nearestWater_28 hl (by decide) rfl (fun ls hl => ?_)
        refine lv_iload hx hb dX7_nearestWater_30 (lv_at hl 0 rfl) ?_
        refine lv_if_eq (tgt := 56) hx hb dX7_nearestWater_32 (by decide) (fun hc => absurd hc (by decide)) (fun _ => ?_)
        refine lv_iload_n hx hb dX7_nearestWater_35 rfl (lv_at hl 3 rfl) ?_
        refine lv_if_lt (tgt := 52) hx hb dX7_nearestWater_36 (by decide) (fun hc6 => ?_) (fun hc6 => ?_)
        · have hf := (if_pos hc6).symm.trans hf
          refine lv_iload_n hx hb dX7_nearestWater_52 rfl (lv_at hl 4 rfl) ?_
          refine lv_goto (tgt := 57) hx hb dX7_nearestWater_53 (by decide) ?_
          refine lv_istore_n (lv' := [(2, .int s1.2), (4, .int (1 : Int32)), (0, .ref (gm g 0)), (1, .int a1), (3, .int s1.2)]) hx hb dX7_nearestWater_57 rfl hl (by decide) rfl (fun ls hl => ?_)
          refine lv_iinc (v := (s1.2 + (1 : Int32))) (lv' := [(3, .int (s1.2 + (1 : Int32))), (2, .int s1.2), (4, .int (1 : Int32)), (0, .ref (gm g 0)), (1, .int a1)]) hx hb dX7_nearestWater_58 hl (k := 4) rfl (congrArg (fun y => s1.2 + y) (by decide : Int32.ofInt (1) = (1 : Int32))) (by decide) rfl (fun ls hl => ?_)
          refine lv_goto (tgt := 4) hx hb dX7_nearestWater_61 (by decide) ?_
          exact hback1 _ (Option.some.inj hf).symm ls (lv_sub hl [3, 4, 1, 0] rfl)
        · have hf := (if_neg hc6).symm.trans hf
          refine lv_iload_n hx hb dX7_nearestWater_39 rfl (lv_at hl 2 rfl) ?_
          refine lv_iload_n hx hb dX7_nearestWater_40 rfl (lv_at hl 4 rfl) ?_
          obtain ⟨q7, hq7, hf⟩ := bd_some hf
          refine kr_S (st1 := [.int q7]) (va_runS (As := [.int a1, .int s1.2]) (rest := []) ⟨hx, hb, hml, hown, hts⟩ (ct_X7_apartOf l n a1 s1.2 q7 hq7) (va_cwS 2 hts gX7_nearestWater_X7_apartOf rfl rfl rfl hn_X7_apartOf ⟨Nat.le_of_ble_eq_true rfl, Nat.le_of_ble_eq_true rfl⟩) ⟨bl_N, pr_N rfl hNW⟩ rfl rfl hl.1 rfl (lv_room (Nat.le_of_ble_eq_true rfl)) dX7_nearestWater_41 ⟨Nat.le_refl _, Nat.le_refl _⟩) rfl (fun hn8 => ?_)
          refine lv_iload_n hx hb dX7_nearestWater_44 rfl (lv_at hl 2 rfl) ?_
          refine lv_iload_n hx hb dX7_nearestWater_45 rfl (lv_at hl 3 rfl) ?_
          obtain ⟨q9, hq9, hf⟩ := bd_some hf
          refine kr_S (st1 := [.int q9, .int q7]) (va_runS (As := [.int a1, .int s1.1]) (rest := [.int q7]) ⟨hx, hb, hml, hown, hts⟩ (ct_X7_apartOf l n a1 s1.1 q9 hq9) (va_cwS 2 hts gX7_nearestWater_X7_apartOf rfl rfl rfl hn_X7_apartOf ⟨Nat.le_of_ble_eq_true rfl, Nat.le_of_ble_eq_true rfl⟩) ⟨bl_N, pr_N rfl hNW⟩ rfl rfl hl.1 rfl (lv_room (Nat.le_of_ble_eq_true rfl)) dX7_nearestWater_46 ⟨Nat.le_refl _, Nat.le_refl _⟩) rfl (fun hn10 => ?_)
          refine lv_icmp_ge (tgt := 56) hx hb dX7_nearestWater_49 (by decide) (fun hc11 => ?_) (fun hc11 => ?_)
          · have hf := (if_pos hc11).symm.trans hf
            refine lv_iload_n hx hb dX7_nearestWater_56 rfl (lv_at hl 3 rfl) ?_
            refine lv_istore_n (lv' := [(2, .int s1.1), (4, .int (1 : Int32)), (0, .ref (gm g 0)), (1, .int a1), (3, .int s1.2)]) hx hb dX7_nearestWater_57 rfl hl (by decide) rfl (fun ls hl => ?_)
            refine lv_iinc (v := (s1.2 + (1 : Int32))) (lv' := [(3, .int (s1.2 + (1 : Int32))), (2, .int s1.1), (4, .int (1 : Int32)), (0, .ref (gm g 0)), (1, .int a1)]) hx hb dX7_nearestWater_58 hl (k := 4) rfl (congrArg (fun y => s1.2 + y) (by decide : Int32.ofInt (1) = (1 : Int32))) (by decide) rfl (fun ls hl => ?_)
            refine lv_goto (tgt := 4) hx hb dX7_nearestWater_61 (by decide) ?_
            exact hback1 _ (Option.some.inj hf).symm ls (lv_sub hl [3, 4, 1, 0] rfl)
          · have hf := (if_neg hc11).symm.trans hf
            refine lv_iload_n hx hb dX7_nearestWater_52 rfl (lv_at hl 4 rfl) ?_
            refine lv_goto (tgt := 57) hx hb dX7_nearestWater_53 (by decide) ?_
            refine lv_istore_n (lv' := [(2, .int s1.2), (4, .int (1 : Int32)), (0, .ref (gm g 0)), (1, .int a1), (3, .int s1.2)]) hx hb dX7_nearestWater_57 rfl hl (by decide) rfl (fun ls hl => ?_)
            refine lv_iinc (v := (s1.2 + (1 : Int32))) (lv' := [(3, .int (s1.2 + (1 : Int32))), (2, .int s1.2), (4, .int (1 : Int32)), (0, .ref (gm g 0)), (1, .int a1)]) hx hb dX7_nearestWater_58 hl (k := 4) rfl (congrArg (fun y => s1.2 + y) (by decide : Int32.ofInt (1) = (1 : Int32))) (by decide) rfl (fun ls hl => ?_)
            refine lv_goto (tgt := 4) hx hb dX7_nearestWater_61 (by decide) ?_
            exact hback1 _ (Option.some.inj hf).symm ls (lv_sub hl [3, 4, 1, 0] rfl)
set_option maxHeartbeats 4000000 in
set_option maxRecDepth 100000 in
theorem ct_X7_nearestHead (l : Launch) (n : Nat) (g : GM) (m_now : Nat → Int32) (m_kept : Nat → Int32) (m_aside : Nat → Int32) (m_isKept : Int32) (m_found : Nat → Int32) (m_steps : Nat → Int32) (m_queue : Nat → Int32) (m_lives : Nat → Int32) (m_treads : Nat → Int32) (m_tape : Nat → Int32) (m_taped : Int32) (m_begins : Int32) (m_ends : Int32) (m_sort : Int32) (m_value : Int32) (m_isWrong : Int32) (m_items : Nat → Int32) (m_itemMany : Int32) (m_seedThen : Int32) (m_groundThen : Nat → Int32) (m_widths : Nat → Int32) (m_sizes : Nat → Int32) (m_numbers : Nat → Int32) (m_moved : Nat → Int32) (a1 : Int32) (res : Int32) (hf : fX7_nearestHead n a1 m_now m_lives = some res) : Met l yX7_nearestHead wsX7_nearestHead ({ frames := 3, cells := 0, slots := 0, locals := 64 }) (va_Pc [.ref (gm g 0), .int a1] (mI g (m_now, m_kept, m_aside, m_isKept, m_found, m_steps, m_queue, m_lives, m_treads, m_tape, m_taped, m_begins, m_ends, m_sort, m_value, m_isWrong, m_items, m_itemMany, m_seedThen, m_groundThen, m_widths, m_sizes, m_numbers, m_moved))) (qS (some (.int res)) True) 0 0 (fun _ => False) := by
  refine Met.ofW (cc := cX7_nearestHead) (maxL := 7) (ret := (some .int)) (by decide) rfl ?_
  intro p e s m args below meth c s₁ B hml hv
  obtain ⟨rfl, hI⟩ := hv
  have hx := B.exec
  have hb := B.bytes
  have hr := B.returns
  have hts := atoms_spec (ws := wsX7_nearestHead) B.pre
  have hown : s.vm.findClass RX7 = some m.cls := findClass_of_methodNamed B.named
  have hlocks := B.notSynchronized
  have hP := hI.1
  have hB := hI.2
  have hK := hB.1
  have hNW := hB.2.1
  have hS : va_S (mA g) s.heap s.heap [] := va_S.rf
  have hw0 := hts (.fieldLink RX7 9 "SownPathsModel" "now" "[I") (by decide +kernel)
  have iwX7 : ∀ w ∈ wsX70, w ∈ wsX7_nearestHead := fun w h => List.mem_cons_of_mem _ (List.mem_append_right _ h)
  have hl := lv_entry ([.ref (gm g 0), .int a1]) (n := 7) (Nat.le_of_ble_eq_true rfl)
  rw [lg_entry_eq]
  generalize (lg_sl ([.ref (gm g 0), .int a1]) ++ List.replicate (7 - (lg_sl ([.ref (gm g 0), .int a1])).length) Slot.unset).toArray = ls at hl ⊢
  have hl : lv_has ls 7 [(0, .ref (gm g 0)), (1, .int a1)] := hl
  unfold fX7_nearestHead at hf
  refine lv_aload_n hx hb dX7_nearestHead_0 rfl (lv_at hl 0 rfl) ?_
  refine lv_iload_n hx hb dX7_nearestHead_1 rfl (lv_at hl 1 rfl) ?_
  refine lv_iconst (v := (1 : Int32)) hx hb dX7_nearestHead_2 (by decide) ?_
  obtain ⟨q1, hq1, hf⟩ := bd_some hf
  refine kr_S (st1 := [.int q1]) (va_runV (As := [.int a1, .int (1 : Int32)]) (rest := []) ⟨hx, hb, hml, hown, hts⟩ (ct_X7_seedIs l n g m_now m_kept m_aside m_isKept m_found m_steps m_queue m_lives m_treads m_tape m_taped m_begins m_ends m_sort m_value m_isWrong m_items m_itemMany m_seedThen m_groundThen m_widths m_sizes m_numbers m_moved a1 (1 : Int32) q1 hq1) (cwV 2 hts gX7_nearestHead_X7_seedIs rfl rfl rfl hd_X7_seedIs ⟨Nat.le_of_ble_eq_true rfl, Nat.le_of_ble_eq_true rfl⟩) ⟨bl_M, va_recv hK hP (ci := 5) (q0 := 0) rfl k_md, pr_M rfl hB hP hS⟩ rfl rfl hl.1 rfl (lv_room (Nat.le_of_ble_eq_true rfl)) dX7_nearestHead_3 ⟨Nat.le_refl _, Nat.le_refl _⟩) rfl (fun hn2 => ?_)
  refine lv_istore_n (lv' := [(2, .int q1), (0, .ref (gm g 0)), (1, .int a1)]) hx hb dX7_nearestHead_6 rfl hl (by decide) rfl (fun ls hl => ?_)
  refine lv_iconst (v := (-1 : Int32)) hx hb dX7_nearestHead_7 (by decide) ?_
  refine lv_istore_n (lv' := [(3, .int (-1 : Int32)), (2, .int q1), (0, .ref (gm g 0)), (1, .int a1)]) hx hb dX7_nearestHead_8 rfl hl (by decide) rfl (fun ls hl => ?_)
  refine lv_iconst (v := (0 : Int32)) hx hb dX7_nearestHead_9 (by decide) ?_
  refine lv_istore (lv' := [(4, .int (0 : Int32)), (3, .int (-1 : Int32)), (2, .int q1), (0, .ref (gm g 0)), (1, .int a1)]) hx hb dX7_nearestHead_10 hl (by decide) rfl (fun ls hl => ?_)
  refine lp_run hf (fun s3 => ∀ (ls : Array Slot), lv_has ls 7 [(0, .ref (gm g 0)), (2, .int q1), (3, .int s3.1), (4, .int s3.2)] → W p l e (headSpec wsX7_nearestHead ({ frames := 3, cells := 0, slots := 0, locals := 64 })).room s m ([.ref (gm g 0), .int a1] : List Value).toArray below meth c s.heap [] 0 0 (MQ below (qS (some (.int res)) True) ([.ref (gm g 0), .int a1] : List Value).toArray s 0 0 (fun _ => False)) (F0 m 12 ls [])) (fun v4 => ∀ (ls : Array Slot), lv_has ls 7 [(3, .int v4.1)] → W p l e (headSpec wsX7_nearestHead ({ frames := 3, cells := 0, slots := 0, locals := 64 })).room s m ([.ref (gm g 0), .int a1] : List Value).toArray below meth c s.heap [] 0 0 (MQ below (qS (some (.int res)) True) ([.ref (gm g 0), .int a1] : List Value).toArray s 0 0 (fun _ => False)) (F0 m 90 ls [])) ?_ ?_ _ (lv_sub hl [3, 2, 1, 0] rfl)
  · intro v4 hf ls hl
    refine lv_iload_n hx hb dX7_nearestHead_90 rfl (lv_at hl 0 rfl) ?_
    have hres : v4.1 = res := (Option.some.inj hf)
    exact W.iret (v := v4.1) hx hb hr (fun t ht hW => ⟨congrArg (fun z => Outcome.returned (some (Value.int z))) hres, trivial, ht⟩) t_nil dX7_nearestHead_91
  · intro s3 r1 hf hback1 hexit1 ls hl
    refine lv_iload hx hb dX7_nearestHead_12 (lv_at hl 3 rfl) ?_
    refine lv_aload_n hx hb dX7_nearestHead_14 rfl (lv_at hl 0 rfl) ?_
    refine va_get (D := g.1) (ci := 5) (v := .ref (gm g 1)) (C := RX7) (T := TX7) (N := 27) hx hb hts iwX7 hown hK hP 0 k_md rfl 0 (by decide) hw0 (fun _ h9 => h9) rfl dX7_nearestHead_15 ?_
    refine lv_iconst (v := (1 : Int32)) hx hb dX7_nearestHead_18 (by decide) ?_
    refine va_iald (f := m_now) hx hb hK hP 1 0 k_now rfl (vi_lit (by decide)) dX7_nearestHead_19 ?_
    refine lv_icmp_ge (tgt := 90) hx hb dX7_nearestHead_20 (by decide) (fun hc5 => ?_) (fun hc5 => ?_)
    · have hf := (if_pos hc5).symm.trans hf
      exact hexit1 (s3.1, s3.2) (Option.some.inj hf).symm ls (lv_sub hl [2] rfl)
    · have hf := (if_neg hc5).symm.trans hf
      refine lv_aload_n hx hb dX7_nearestHead_23 rfl (lv_at hl 0 rfl) ?_
      refine lv_iload hx hb dX7_nearestHead_24 (lv_at hl 3 rfl) ?_
      refine lv_iconst (v := (1 : Int32)) hx hb dX7_nearestHead_26 (by decide) ?_
      obtain ⟨q6, hq6, hf⟩ := bd_some hf
      refine kr_S (st1 := [.int q6]) (va_runV (As := [.int s3.2, .int (1 : Int32)]) (rest := []) ⟨hx, hb, hml, hown, hts⟩ (ct_X7_seedIs l n g m_now m_kept m_aside m_isKept m_found m_steps m_queue m_lives m_treads m_tape m_taped m_begins m_ends m_sort m_value m_isWrong m_items m_itemMany m_seedThen m_groundThen m_widths m_sizes m_numbers m_moved s3.2 (1 : Int32) q6 hq6) (cwV 2 hts gX7_nearestHead_X7_seedIs rfl rfl rfl hd_X7_seedIs ⟨Nat.le_of_ble_eq_true rfl, Nat.le_of_ble_eq_true rfl⟩) ⟨bl_M, va_recv hK hP (ci := 5) (q0 := 0) rfl k_md, pr_M rfl hB hP hS⟩ rfl rfl hl.1 rfl (lv_room (Nat.le_of_ble_eq_true rfl)) dX7_nearestHead_27 ⟨Nat.le_refl _, Nat.le_refl _⟩) rfl (fun hn7 => ?_)
      refine lv_istore (lv' := [(5, .int q6), (0, .ref (gm g 0)), (2, .int q1), (3, .int s3.1), (4, .int s3.2)]) hx hb dX7_nearestHead_30 hl (by decide) rfl (fun ls hl => ?_)
      refine lv_iload hx hb dX7_nearestHead_32 (lv_at hl 0 rfl) ?_
      refine lv_iload_n hx hb dX7_nearestHead_34 rfl (lv_at hl 2 rfl) ?_
      refine lv_icmp_eq (tgt := 51) hx hb dX7_nearestHead_35 (by decide) (fun hc8 => ?_) (fun hc8 => ?_)
      · have hf := (if_pos hc8).symm.trans hf
        refine lv_iconst (v := (0 : Int32)) hx hb dX7_nearestHead_51 (by decide) ?_
        refine lv_istore (lv' := [(6, .int (0 : Int32)), (5, .int q6), (0, .ref (gm g 0)), (2, .int q1), (3, .int s3.1), (4, .int s3.2)]) hx hb dX7_nearestHead_52 hl (by decide) rfl (fun ls hl => ?_)
        refine lv_iload hx hb dX7_nearestHead_54 (lv_at hl 0 rfl) ?_
        refine lv_if_eq (tgt := 82) hx hb dX7_nearestHead_56 (by decide) (fun _ => ?_) (fun hc => absurd hc (by decide))
        refine lv_iload_n hx hb dX7_nearestHead_82 rfl (lv_at hl 4 rfl) ?_
        refine lv_istore_n (lv' := [(3, .int s3.1), (6, .int (0 : Int32)), (5, .int q6), (0, .ref (gm g 0)), (2, .int q1), (4, .int s3.2)]) hx hb dX7_nearestHead_83 rfl hl (by decide) rfl (fun ls hl => ?_)
        refine lv_iinc (v := (s3.2 + (1 : Int32))) (lv' := [(4, .int (s3.2 + (1 : Int32))), (3, .int s3.1), (6, .int (0 : Int32)), (5, .int q6), (0, .ref (gm g 0)), (2, .int q1)]) hx hb dX7_nearestHead_84 hl (k := 5) rfl (congrArg (fun y => s3.2 + y) (by decide : Int32.ofInt (1) = (1 : Int32))) (by decide) rfl (fun ls hl => ?_)
        refine lv_goto (tgt := 12) hx hb dX7_nearestHead_87 (by decide) ?_
        exact hback1 _ (Option.some.inj hf).symm ls (lv_sub hl [4, 5, 1, 0] rfl)
      · have hf := (if_neg hc8).symm.trans hf
        refine lv_aload_n hx hb dX7_nearestHead_38 rfl (lv_at hl 1 rfl) ?_
        refine lv_iload hx hb dX7_nearestHead_39 (lv_at hl 4 rfl) ?_
        obtain ⟨q9, hq9, hf⟩ := bd_some hf
        refine kr_S (st1 := [.int q9]) (va_runV (As := [.int s3.2]) (rest := []) ⟨hx, hb, hml, hown, hts⟩ (ct_X7_isAlive l n g m_now m_kept m_aside m_isKept m_found m_steps m_queue m_lives m_treads m_tape m_taped m_begins m_ends m_sort m_value m_isWrong m_items m_itemMany m_seedThen m_groundThen m_widths m_sizes m_numbers m_moved s3.2 q9 hq9) (cwV 1 hts gX7_nearestHead_X7_isAlive rfl rfl rfl hd_X7_isAlive ⟨Nat.le_of_ble_eq_true rfl, Nat.le_of_ble_eq_true rfl⟩) ⟨bl_M, va_recv hK hP (ci := 5) (q0 := 0) rfl k_md, pr_M rfl hB hP hS⟩ rfl rfl hl.1 rfl (lv_room (Nat.le_of_ble_eq_true rfl)) dX7_nearestHead_41 ⟨Nat.le_refl _, Nat.le_refl _⟩) rfl (fun hn10 => ?_)
        refine lv_if_eq (tgt := 51) hx hb dX7_nearestHead_44 (by decide) (fun hc11 => ?_) (fun hc11 => ?_)
        · have hf := (if_pos hc11).symm.trans hf
          refine lv_iconst (v := (0 : Int32)) hx hb dX7_nearestHead_51 (by decide) ?_
          refine lv_istore (lv' := [(6, .int (0 : Int32)), (5, .int q6), (0, .ref (gm g 0)), (2, .int q1), (3, .int s3.1), (4, .int s3.2)]) hx hb dX7_nearestHead_52 hl (by decide) rfl (fun ls hl => ?_)
          refine lv_iload hx hb dX7_nearestHead_54 (lv_at hl 0 rfl) ?_
          refine lv_if_eq (tgt := 82) hx hb dX7_nearestHead_56 (by decide) (fun _ => ?_) (fun hc => absurd hc (by decide))
          refine lv_iload_n hx hb dX7_nearestHead_82 rfl (lv_at hl 4 rfl) ?_
          refine lv_istore_n (lv' := [(3, .int s3.1), (6, .int (0 : Int32)), (5, .int q6), (0, .ref (gm g 0)), (2, .int q1), (4, .int s3.2)]) hx hb dX7_nearestHead_83 rfl hl (by decide) rfl (fun ls hl => ?_)
          refine lv_iinc (v := (s3.2 + (1 : Int32))) (lv' := [(4, .int (s3.2 + (1 : Int32))), (3, .int s3.1), (6, .int (0 : Int32)), (5, .int q6), (0, .ref (gm g 0)), (2, .int q1)]) hx hb dX7_nearestHead_84 hl (k := 5) rfl (congrArg (fun y => s3.2 + y) (by decide : Int32.ofInt (1) = (1 : Int32))) (by decide) rfl (fun ls hl => ?_)
          refine lv_goto (tgt := 12) hx hb dX7_nearestHead_87 (by decide) ?_
          exact hback1 _ (Option.some.inj hf).symm ls (lv_sub hl [4, 5, 1, 0] rfl)
        · have hf := (if_neg hc11).symm.trans hf
          refine lv_iconst (v := (1 : Int32)) hx hb dX7_nearestHead_47 (by decide) ?_
          refine lv_goto (tgt := 52) hx hb dX7_nearestHead_48 (by decide) ?_
          refine lv_istore (lv' := [(6, .int (1 : Int32)), (5, .int q6), (0, .ref (gm g 0)), (2, .int q1), (3, .int s3.1), (4, .int s3.2)]) hx hb dX7_nearestHead_52 hl (by decide) rfl (fun ls hl => ?_)
          refine lv_iload hx hb dX7_nearestHead_54 (lv_at hl 0 rfl) ?_
          refine lv_if_eq (tgt := 82) hx hb dX7_nearestHead_56 (by decide) (fun hc => absurd hc (by decide)) (fun _ => ?_)
          refine lv_iload_n hx hb dX7_nearestHead_59 rfl (lv_at hl 4 rfl) ?_
          refine lv_if_lt (tgt := 77) hx hb dX7_nearestHead_60 (by decide) (fun hc12 => ?_) (fun hc12 => ?_)
          · have hf := (if_pos hc12).symm.trans hf
            refine lv_iload hx hb dX7_nearestHead_77 (lv_at hl 1 rfl) ?_
            refine lv_goto (tgt := 83) hx hb dX7_nearestHead_79 (by decide) ?_
            refine lv_istore_n (lv' := [(3, .int q6), (6, .int (1 : Int32)), (5, .int q6), (0, .ref (gm g 0)), (2, .int q1), (4, .int s3.2)]) hx hb dX7_nearestHead_83 rfl hl (by decide) rfl (fun ls hl => ?_)
            refine lv_iinc (v := (s3.2 + (1 : Int32))) (lv' := [(4, .int (s3.2 + (1 : Int32))), (3, .int q6), (6, .int (1 : Int32)), (5, .int q6), (0, .ref (gm g 0)), (2, .int q1)]) hx hb dX7_nearestHead_84 hl (k := 5) rfl (congrArg (fun y => s3.2 + y) (by decide : Int32.ofInt (1) = (1 : Int32))) (by decide) rfl (fun ls hl => ?_)
            refine lv_goto (tgt := 12) hx hb dX7_nearestHead_87 (by decide) ?_
            exact hback1 _ (Option.some.inj hf).symm ls (lv_sub hl [4, 5, 1, 0] rfl)
          · have hf := (if_neg hc12).symm.trans hf
            refine lv_iload_n hx hb dX7_nearestHead_63 rfl (lv_at hl 3 rfl) ?_
            refine lv_iload hx hb dX7_nearestHead_64 (lv_at hl 1 rfl) ?_
            obtain ⟨q13, hq13, hf⟩ := bd_some hf
            refine kr_S (st1 := [.int q13]) (va_runS (As := [.int q1, .int q6]) (rest := []) ⟨hx, hb, hml, hown, hts⟩ (ct_X7_apartOf l n q1 q6 q13 hq13) (va_cwS 2 hts gX7_nearestHead_X7_apartOf rfl rfl rfl hn_X7_apartOf ⟨Nat.le_of_ble_eq_true rfl, Nat.le_of_ble_eq_true rfl⟩) ⟨bl_N, pr_N rfl hNW⟩ rfl rfl hl.1 rfl (lv_room (Nat.le_of_ble_eq_true rfl)) dX7_nearestHead_66 ⟨Nat.le_refl _, Nat.le_refl _⟩) rfl (fun hn14 => ?_)
            refine lv_iload_n hx hb dX7_nearestHead_69 rfl (lv_at hl 3 rfl) ?_
            refine lv_iload_n hx hb dX7_nearestHead_70 rfl (lv_at hl 4 rfl) ?_
            obtain ⟨q15, hq15, hf⟩ := bd_some hf
            refine kr_S (st1 := [.int q15, .int q13]) (va_runS (As := [.int q1, .int s3.1]) (rest := [.int q13]) ⟨hx, hb, hml, hown, hts⟩ (ct_X7_apartOf l n q1 s3.1 q15 hq15) (va_cwS 2 hts gX7_nearestHead_X7_apartOf rfl rfl rfl hn_X7_apartOf ⟨Nat.le_of_ble_eq_true rfl, Nat.le_of_ble_eq_true rfl⟩) ⟨bl_N, pr_N rfl hNW⟩ rfl rfl hl.1 rfl (lv_room (Nat.le_of_ble_eq_true rfl)) dX7_nearestHead_71 ⟨Nat.le_refl _, Nat.le_refl _⟩) rfl (fun hn16 => ?_)
            refine lv_icmp_ge (tgt := 82) hx hb dX7_nearestHead_74 (by decide) (fun hc17 => ?_) (fun hc17 => ?_)
            · have hf := (if_pos hc17).symm.trans hf
              refine lv_iload_n hx hb dX7_nearestHead_82 rfl (lv_at hl 4 rfl) ?_
              refine lv_istore_n (lv' := [(3, .int s3.1), (6, .int (1 : Int32)), (5, .int q6), (0, .ref (gm g 0)), (2, .int q1), (4, .int s3.2)]) hx hb dX7_nearestHead_83 rfl hl (by decide) rfl (fun ls hl => ?_)
              refine lv_iinc (v := (s3.2 + (1 : Int32))) (lv' := [(4, .int (s3.2 + (1 : Int32))), (3, .int s3.1), (6, .int (1 : Int32)), (5, .int q6), (0, .ref (gm g 0)), (2, .int q1)]) hx hb dX7_nearestHead_84 hl (k := 5) rfl (congrArg (fun y => s3.2 + y) (by decide : Int32.ofInt (1) = (1 : Int32))) (by decide) rfl (fun ls hl => ?_)
              refine lv_goto (tgt := 12) hx hb dX7_nearestHead_87 (by decide) ?_
              exact hback1 _ (Option.some.inj hf).symm ls (lv_sub hl [4, 5, 1, 0] rfl)
            · have hf := (if_neg hc17).symm.trans hf
              refine lv_iload hx hb dX7_nearestHead_77 (lv_at hl 1 rfl) ?_
              refine lv_goto (tgt := 83) hx hb dX7_nearestHead_79 (by decide) ?_
              refine lv_istore_n (lv' := [(3, .int q6), (6, .int (1 : Int32)), (5, .int q6), (0, .ref (gm g 0)), (2, .int q1), (4, .int s3.2)]) hx hb dX7_nearestHead_83 rfl hl (by decide) rfl (fun ls hl => ?_)
              refine lv_iinc (v := (s3.2 + (1 : Int32))) (lv' := [(4, .int (s3.2 + (1 : Int32))), (3, .int q6), (6, .int (1 : Int32)), (5, .int q6), (0, .ref (gm g 0)), (2, .int q1)]) hx hb dX7_nearestHead_84 hl (k := 5) rfl (congrArg (fun y => s3.2 + y) (by decide : Int32.ofInt (1) = (1 : Int32))) (by decide) rfl (fun ls hl => ?_)
              refine lv_goto (tgt := 12) hx hb dX7_nearestHead_87 (by decide) ?_
              exact hback1 _ (Option.some.inj hf).symm ls (lv_sub hl [4, 5, 1, 0] rfl)
