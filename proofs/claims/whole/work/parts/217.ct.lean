/-! CONTRACTS, by program -/
set_option maxHeartbeats 4000000 in
set_option maxRecDepth 100000 in
theorem ct_X7_write (l : Launch) (n : Nat) (g : GM) (m_now : Nat → Int32) (m_kept : Nat → Int32) (m_aside : Nat → Int32) (m_isKept : Int32) (m_found : Nat → Int32) (m_steps : Nat → Int32) (m_queue : Nat → Int32) (m_lives : Nat → Int32) (m_treads : Nat → Int32) (m_tape : Nat → Int32) (m_taped : Int32) (m_begins : Int32) (m_ends : Int32) (m_sort : Int32) (m_value : Int32) (m_isWrong : Int32) (m_items : Nat → Int32) (m_itemMany : Int32) (m_seedThen : Int32) (m_groundThen : Nat → Int32) (m_widths : Nat → Int32) (m_sizes : Nat → Int32) (m_numbers : Nat → Int32) (m_moved : Nat → Int32) (a1 : Int32) (a2 : Int32) (a3 : Int32) (res : Int32 × (Nat → Int32) × (Nat → Int32)) (hf : fX7_write n a1 a2 a3 m_found m_widths m_sizes m_numbers = some res) : Met l yX7_write wsX7_write ({ frames := 2, cells := 0, slots := 0, locals := 42 }) (va_Pc [.ref (gm g 0), .int a1, .int a2, .int a3] (mI g (m_now, m_kept, m_aside, m_isKept, m_found, m_steps, m_queue, m_lives, m_treads, m_tape, m_taped, m_begins, m_ends, m_sort, m_value, m_isWrong, m_items, m_itemMany, m_seedThen, m_groundThen, m_widths, m_sizes, m_numbers, m_moved))) (qW (some (.int res.1)) True g.1 (mw g (m_now, m_kept, m_aside, m_isKept, res.2.1, m_steps, m_queue, m_lives, m_treads, m_tape, m_taped, m_begins, m_ends, m_sort, m_value, m_isWrong, m_items, m_itemMany, m_seedThen, m_groundThen, m_widths, m_sizes, res.2.2, m_moved)) (mA g)) 0 0 (mA g) := by
  refine Met.ofW (cc := cX7_write) (maxL := 4) (ret := (some .int)) (by decide) rfl ?_
  intro p e s m args below meth c s₁ B hml hv
  obtain ⟨rfl, hI⟩ := hv
  have hx := B.exec
  have hb := B.bytes
  have hr := B.returns
  have hts := atoms_spec (ws := wsX7_write) B.pre
  have hown : s.vm.findClass RX7 = some m.cls := findClass_of_methodNamed B.named
  have hlocks := B.notSynchronized
  have hP := hI.1
  have hB := hI.2
  have hK := hB.1
  have hNW := hB.2.1
  have hS : va_S (mA g) s.heap s.heap [] := va_S.rf
  have hw0 := hts (.fieldLink RX7 83 "SownPathsModel" "widths" "[I") (by decide +kernel)
  have hw1 := hts (.fieldLink RX7 86 "SownPathsModel" "sizes" "[I") (by decide +kernel)
  have hw2 := hts (.fieldLink RX7 89 "SownPathsModel" "numbers" "[I") (by decide +kernel)
  have hw3 := hts (.constant RX7 95 (-1000001)) (by decide +kernel)
  have hw4 := hts (.constant RX7 276 (-1000006)) (by decide +kernel)
  have iwX7 : ∀ w ∈ wsX70, w ∈ wsX7_write := fun w h => List.mem_cons_of_mem _ (List.mem_append_right _ h)
  have hl := lv_entry ([.ref (gm g 0), .int a1, .int a2, .int a3]) (n := 4) (Nat.le_of_ble_eq_true rfl)
  rw [lg_entry_eq]
  generalize (lg_sl ([.ref (gm g 0), .int a1, .int a2, .int a3]) ++ List.replicate (4 - (lg_sl ([.ref (gm g 0), .int a1, .int a2, .int a3])).length) Slot.unset).toArray = ls at hl ⊢
  have hl : lv_has ls 4 [(0, .ref (gm g 0)), (1, .int a1), (2, .int a2), (3, .int a3)] := hl
  unfold fX7_write at hf
  refine lv_iload_n hx hb dX7_write_0 rfl (lv_at hl 1 rfl) ?_
  obtain ⟨q1, hq1, hf⟩ := bd_some hf
  refine kr_S (st1 := [.int q1]) (va_runS (As := [.int a1]) (rest := []) ⟨hx, hb, hml, hown, hts⟩ (ct_X7_isSheet l n a1 q1 hq1) (va_cwS 1 hts gX7_write_X7_isSheet rfl rfl rfl hn_X7_isSheet ⟨Nat.le_of_ble_eq_true rfl, Nat.le_of_ble_eq_true rfl⟩) ⟨bl_N, pr_N rfl hNW⟩ rfl rfl hl.1 rfl (lv_room (Nat.le_of_ble_eq_true rfl)) dX7_write_1 ⟨Nat.le_refl _, Nat.le_refl _⟩) rfl (fun hn2 => ?_)
  refine lv_if_ne (tgt := 14) hx hb dX7_write_4 (by decide) (fun hc3 => ?_) (fun hc3 => ?_)
  · have hf := (if_neg hc3).symm.trans hf
    refine lv_aload_n hx hb dX7_write_14 rfl (lv_at hl 0 rfl) ?_
    refine va_get (D := g.1) (ci := 5) (v := .ref (gm g 15)) (C := RX7) (T := TX7) (N := 27) hx hb hts iwX7 hown hK hP 0 k_md rfl 23 (by decide) hw0 (fun _ h9 => h9) rfl dX7_write_15 ?_
    refine lv_iload_n hx hb dX7_write_18 rfl (lv_at hl 1 rfl) ?_
    obtain ⟨hg4, hf⟩ := gd_some hf
    refine va_iald (f := m_widths) hx hb hK hP 15 0 k_widths rfl hg4 dX7_write_19 ?_
    refine lv_if_ne (tgt := 31) hx hb dX7_write_20 (by decide) (fun hc5 => ?_) (fun hc5 => ?_)
    · have hf := (if_neg hc5).symm.trans hf
      refine lv_iload_n hx hb dX7_write_31 rfl (lv_at hl 2 rfl) ?_
      refine lv_iconst (v := (0 : Int32)) hx hb dX7_write_32 (by decide) ?_
      refine lv_aload_n hx hb dX7_write_33 rfl (lv_at hl 0 rfl) ?_
      refine va_get (D := g.1) (ci := 5) (v := .ref (gm g 16)) (C := RX7) (T := TX7) (N := 27) hx hb hts iwX7 hown hK hP 0 k_md rfl 24 (by decide) hw1 (fun _ h9 => h9) rfl dX7_write_34 ?_
      refine lv_iload_n hx hb dX7_write_37 rfl (lv_at hl 1 rfl) ?_
      obtain ⟨hg6, hf⟩ := gd_some hf
      refine va_iald (f := m_sizes) hx hb hK hP 16 0 k_sizes rfl hg6 dX7_write_38 ?_
      refine lv_iconst (v := (1 : Int32)) hx hb dX7_write_39 (by decide) ?_
      refine lv_isub hx hb dX7_write_40 ?_
      obtain ⟨q7, hq7, hf⟩ := bd_some hf
      refine kr_S (st1 := [.int q7]) (va_runS (As := [.int a2, .int (0 : Int32), .int ((m_sizes a1.toNatClampNeg) - (1 : Int32))]) (rest := []) ⟨hx, hb, hml, hown, hts⟩ (ct_X7_within l n a2 (0 : Int32) ((m_sizes a1.toNatClampNeg) - (1 : Int32)) q7 hq7) (va_cwS 3 hts gX7_write_X7_within rfl rfl rfl hn_X7_within ⟨Nat.le_of_ble_eq_true rfl, Nat.le_of_ble_eq_true rfl⟩) ⟨bl_N, pr_N rfl hNW⟩ rfl rfl hl.1 rfl (lv_room (Nat.le_of_ble_eq_true rfl)) dX7_write_41 ⟨Nat.le_refl _, Nat.le_refl _⟩) rfl (fun hn8 => ?_)
      refine lv_if_ne (tgt := 54) hx hb dX7_write_44 (by decide) (fun hc9 => ?_) (fun hc9 => ?_)
      · have hf := (if_neg hc9).symm.trans hf
        refine lv_aload_n hx hb dX7_write_54 rfl (lv_at hl 0 rfl) ?_
        refine va_get (D := g.1) (ci := 5) (v := .ref (gm g 17)) (C := RX7) (T := TX7) (N := 27) hx hb hts iwX7 hown hK hP 0 k_md rfl 25 (by decide) hw2 (fun _ h9 => h9) rfl dX7_write_55 ?_
        refine lv_bipush (v := (40 : Int32)) hx hb dX7_write_58 (by decide) ?_
        refine lv_iload_n hx hb dX7_write_60 rfl (lv_at hl 1 rfl) ?_
        refine lv_imul hx hb dX7_write_61 ?_
        refine lv_iload_n hx hb dX7_write_62 rfl (lv_at hl 2 rfl) ?_
        refine lv_iadd hx hb dX7_write_63 ?_
        refine lv_iload_n hx hb dX7_write_64 rfl (lv_at hl 3 rfl) ?_
        refine lv_aload_n hx hb dX7_write_65 rfl (lv_at hl 0 rfl) ?_
        refine va_get (D := g.1) (ci := 5) (v := .ref (gm g 15)) (C := RX7) (T := TX7) (N := 27) hx hb hts iwX7 hown hK hP 0 k_md rfl 23 (by decide) hw0 (fun _ h9 => h9) rfl dX7_write_66 ?_
        refine lv_iload_n hx hb dX7_write_69 rfl (lv_at hl 1 rfl) ?_
        obtain ⟨hg10, hf⟩ := gd_some hf
        refine va_iald (f := m_widths) hx hb hK hP 15 0 k_widths rfl hg10 dX7_write_70 ?_
        obtain ⟨q11, hq11, hf⟩ := bd_some hf
        refine kr_S (st1 := [.int q11, .int (((40 : Int32) * a1) + a2), .ref (gm g 17)]) (va_runS (As := [.int a3, .int (m_widths a1.toNatClampNeg)]) (rest := [.int (((40 : Int32) * a1) + a2), .ref (gm g 17)]) ⟨hx, hb, hml, hown, hts⟩ (ct_X7_cutTo l n a3 (m_widths a1.toNatClampNeg) q11 hq11) (va_cwS 2 hts gX7_write_X7_cutTo rfl rfl rfl hn_X7_cutTo ⟨Nat.le_of_ble_eq_true rfl, Nat.le_of_ble_eq_true rfl⟩) ⟨bl_N, pr_N rfl hNW⟩ rfl rfl hl.1 rfl (lv_room (Nat.le_of_ble_eq_true rfl)) dX7_write_71 ⟨Nat.le_refl _, Nat.le_refl _⟩) rfl (fun hn12 => ?_)
        obtain ⟨hg13, hf⟩ := gd_some hf
        refine va_iast (f := m_numbers) hx hb hK hP (mD hB.2.2.1 _) hS 17 0 k_numbers rfl hg13 dX7_write_74 (fun H locs hP _ hS => ?_)
        have hP : va_P g.1 vwCl (mw g (m_now, m_kept, m_aside, m_isKept, m_found, m_steps, m_queue, m_lives, m_treads, m_tape, m_taped, m_begins, m_ends, m_sort, m_value, m_isWrong, m_items, m_itemMany, m_seedThen, m_groundThen, m_widths, m_sizes, (upd m_numbers (((40 : Int32) * a1) + a2).toNatClampNeg q11), m_moved)) H := w_eq (k_set_numbers (upd m_numbers (((40 : Int32) * a1) + a2).toNatClampNeg q11)) hP
        refine lv_iconst (v := (1 : Int32)) hx hb dX7_write_75 (by decide) ?_
        have hres : ((1 : Int32), m_found, (upd m_numbers (((40 : Int32) * a1) + a2).toNatClampNeg q11)) = res := (Option.some.inj hf)
        have hP := w_eq (congrArg (fun z => mw g (m_now, m_kept, m_aside, m_isKept, z.2.1, m_steps, m_queue, m_lives, m_treads, m_tape, m_taped, m_begins, m_ends, m_sort, m_value, m_isWrong, m_items, m_itemMany, m_seedThen, m_groundThen, m_widths, m_sizes, z.2.2, m_moved)) hres) hP
        exact W.iret (v := (1 : Int32)) hx hb hr (fun t ht hW => ⟨congrArg (fun z => Outcome.returned (some (Value.int z.1))) hres, trivial, by rw [ht]; exact hP, hS.F ht⟩) hS.2.2 dX7_write_76
      · have hf := (if_pos hc9).symm.trans hf
        refine lv_aload_n hx hb dX7_write_47 rfl (lv_at hl 0 rfl) ?_
        refine lv_ldc (v := (-1000001 : Int32)) hx hb hown hw3 dX7_write_48 ?_
        obtain ⟨q14, hq14, hf⟩ := bd_some hf
        refine kr_W (st1 := [.int q14.1]) (va_runV (As := [.int (-1000001 : Int32)]) (rest := []) ⟨hx, hb, hml, hown, hts⟩ (ct_X7_finding l n g m_now m_kept m_aside m_isKept m_found m_steps m_queue m_lives m_treads m_tape m_taped m_begins m_ends m_sort m_value m_isWrong m_items m_itemMany m_seedThen m_groundThen m_widths m_sizes m_numbers m_moved (-1000001 : Int32) q14 hq14) (cwV 1 hts gX7_write_X7_finding rfl rfl rfl hd_X7_finding ⟨Nat.le_of_ble_eq_true rfl, Nat.le_of_ble_eq_true rfl⟩) ⟨bl_M, va_recv hK hP (ci := 5) (q0 := 0) rfl k_md, pr_M rfl hB hP hS⟩ rfl rfl hl.1 rfl (lv_room (Nat.le_of_ble_eq_true rfl)) dX7_write_50 ⟨Nat.le_refl _, Nat.le_refl _⟩) hS rfl (fun hn15 H locs hP hS => ?_)
        have hP : va_P g.1 vwCl (mw g (m_now, m_kept, m_aside, m_isKept, q14.2, m_steps, m_queue, m_lives, m_treads, m_tape, m_taped, m_begins, m_ends, m_sort, m_value, m_isWrong, m_items, m_itemMany, m_seedThen, m_groundThen, m_widths, m_sizes, m_numbers, m_moved)) H := hP
        have hres : (q14.1, q14.2, m_numbers) = res := (Option.some.inj hf)
        have hP := w_eq (congrArg (fun z => mw g (m_now, m_kept, m_aside, m_isKept, z.2.1, m_steps, m_queue, m_lives, m_treads, m_tape, m_taped, m_begins, m_ends, m_sort, m_value, m_isWrong, m_items, m_itemMany, m_seedThen, m_groundThen, m_widths, m_sizes, z.2.2, m_moved)) hres) hP
        exact W.iret (v := q14.1) hx hb hr (fun t ht hW => ⟨congrArg (fun z => Outcome.returned (some (Value.int z.1))) hres, trivial, by rw [ht]; exact hP, hS.F ht⟩) hS.2.2 dX7_write_53
    · have hf := (if_pos hc5).symm.trans hf
      refine lv_aload_n hx hb dX7_write_23 rfl (lv_at hl 0 rfl) ?_
      refine lv_ldcw (v := (-1000006 : Int32)) hx hb hown hw4 dX7_write_24 ?_
      obtain ⟨q16, hq16, hf⟩ := bd_some hf
      refine kr_W (st1 := [.int q16.1]) (va_runV (As := [.int (-1000006 : Int32)]) (rest := []) ⟨hx, hb, hml, hown, hts⟩ (ct_X7_finding l n g m_now m_kept m_aside m_isKept m_found m_steps m_queue m_lives m_treads m_tape m_taped m_begins m_ends m_sort m_value m_isWrong m_items m_itemMany m_seedThen m_groundThen m_widths m_sizes m_numbers m_moved (-1000006 : Int32) q16 hq16) (cwV 1 hts gX7_write_X7_finding rfl rfl rfl hd_X7_finding ⟨Nat.le_of_ble_eq_true rfl, Nat.le_of_ble_eq_true rfl⟩) ⟨bl_M, va_recv hK hP (ci := 5) (q0 := 0) rfl k_md, pr_M rfl hB hP hS⟩ rfl rfl hl.1 rfl (lv_room (Nat.le_of_ble_eq_true rfl)) dX7_write_27 ⟨Nat.le_refl _, Nat.le_refl _⟩) hS rfl (fun hn17 H locs hP hS => ?_)
      have hP : va_P g.1 vwCl (mw g (m_now, m_kept, m_aside, m_isKept, q16.2, m_steps, m_queue, m_lives, m_treads, m_tape, m_taped, m_begins, m_ends, m_sort, m_value, m_isWrong, m_items, m_itemMany, m_seedThen, m_groundThen, m_widths, m_sizes, m_numbers, m_moved)) H := hP
      have hres : (q16.1, q16.2, m_numbers) = res := (Option.some.inj hf)
      have hP := w_eq (congrArg (fun z => mw g (m_now, m_kept, m_aside, m_isKept, z.2.1, m_steps, m_queue, m_lives, m_treads, m_tape, m_taped, m_begins, m_ends, m_sort, m_value, m_isWrong, m_items, m_itemMany, m_seedThen, m_groundThen, m_widths, m_sizes, z.2.2, m_moved)) hres) hP
      exact W.iret (v := q16.1) hx hb hr (fun t ht hW => ⟨congrArg (fun z => Outcome.returned (some (Value.int z.1))) hres, trivial, by rw [ht]; exact hP, hS.F ht⟩) hS.2.2 dX7_write_30
  · have hf := (if_pos hc3).symm.trans hf
    refine lv_aload_n hx hb dX7_write_7 rfl (lv_at hl 0 rfl) ?_
    refine lv_ldc (v := (-1000001 : Int32)) hx hb hown hw3 dX7_write_8 ?_
    obtain ⟨q18, hq18, hf⟩ := bd_some hf
    refine kr_W (st1 := [.int q18.1]) (va_runV (As := [.int (-1000001 : Int32)]) (rest := []) ⟨hx, hb, hml, hown, hts⟩ (ct_X7_finding l n g m_now m_kept m_aside m_isKept m_found m_steps m_queue m_lives m_treads m_tape m_taped m_begins m_ends m_sort m_value m_isWrong m_items m_itemMany m_seedThen m_groundThen m_widths m_sizes m_numbers m_moved (-1000001 : Int32) q18 hq18) (cwV 1 hts gX7_write_X7_finding rfl rfl rfl hd_X7_finding ⟨Nat.le_of_ble_eq_true rfl, Nat.le_of_ble_eq_true rfl⟩) ⟨bl_M, va_recv hK hP (ci := 5) (q0 := 0) rfl k_md, pr_M rfl hB hP hS⟩ rfl rfl hl.1 rfl (lv_room (Nat.le_of_ble_eq_true rfl)) dX7_write_10 ⟨Nat.le_refl _, Nat.le_refl _⟩) hS rfl (fun hn19 H locs hP hS => ?_)
    have hP : va_P g.1 vwCl (mw g (m_now, m_kept, m_aside, m_isKept, q18.2, m_steps, m_queue, m_lives, m_treads, m_tape, m_taped, m_begins, m_ends, m_sort, m_value, m_isWrong, m_items, m_itemMany, m_seedThen, m_groundThen, m_widths, m_sizes, m_numbers, m_moved)) H := hP
    have hres : (q18.1, q18.2, m_numbers) = res := (Option.some.inj hf)
    have hP := w_eq (congrArg (fun z => mw g (m_now, m_kept, m_aside, m_isKept, z.2.1, m_steps, m_queue, m_lives, m_treads, m_tape, m_taped, m_begins, m_ends, m_sort, m_value, m_isWrong, m_items, m_itemMany, m_seedThen, m_groundThen, m_widths, m_sizes, z.2.2, m_moved)) hres) hP
    exact W.iret (v := q18.1) hx hb hr (fun t ht hW => ⟨congrArg (fun z => Outcome.returned (some (Value.int z.1))) hres, trivial, by rw [ht]; exact hP, hS.F ht⟩) hS.2.2 dX7_write_13
set_option maxHeartbeats 4000000 in
set_option maxRecDepth 100000 in
theorem ct_X7_copy (l : Launch) (n : Nat) (g : GM) (m_now : Nat → Int32) (m_kept : Nat → Int32) (m_aside : Nat → Int32) (m_isKept : Int32) (m_found : Nat → Int32) (m_steps : Nat → Int32) (m_queue : Nat → Int32) (m_lives : Nat → Int32) (m_treads : Nat → Int32) (m_tape : Nat → Int32) (m_taped : Int32) (m_begins : Int32) (m_ends : Int32) (m_sort : Int32) (m_value : Int32) (m_isWrong : Int32) (m_items : Nat → Int32) (m_itemMany : Int32) (m_seedThen : Int32) (m_groundThen : Nat → Int32) (m_widths : Nat → Int32) (m_sizes : Nat → Int32) (m_numbers : Nat → Int32) (m_moved : Nat → Int32) (a1 : Int32) (a2 : Int32) (a3 : Int32) (a4 : Int32) (a5 : Int32) (res : Int32 × (Nat → Int32) × (Nat → Int32) × (Nat → Int32)) (hf : fX7_copy n a1 a2 a3 a4 a5 m_found m_widths m_sizes m_numbers m_moved = some res) : Met l yX7_copy wsX7_copy ({ frames := 2, cells := 0, slots := 0, locals := 42 }) (va_Pc [.ref (gm g 0), .int a1, .int a2, .int a3, .int a4, .int a5] (mI g (m_now, m_kept, m_aside, m_isKept, m_found, m_steps, m_queue, m_lives, m_treads, m_tape, m_taped, m_begins, m_ends, m_sort, m_value, m_isWrong, m_items, m_itemMany, m_seedThen, m_groundThen, m_widths, m_sizes, m_numbers, m_moved))) (qW (some (.int res.1)) True g.1 (mw g (m_now, m_kept, m_aside, m_isKept, res.2.1, m_steps, m_queue, m_lives, m_treads, m_tape, m_taped, m_begins, m_ends, m_sort, m_value, m_isWrong, m_items, m_itemMany, m_seedThen, m_groundThen, m_widths, m_sizes, res.2.2.1, res.2.2.2)) (mA g)) 0 0 (mA g) := by
  refine Met.ofW (cc := cX7_copy) (maxL := 7) (ret := (some .int)) (by decide) rfl ?_
  intro p e s m args below meth c s₁ B hml hv
  obtain ⟨rfl, hI⟩ := hv
  have hx := B.exec
  have hb := B.bytes
  have hr := B.returns
  have hts := atoms_spec (ws := wsX7_copy) B.pre
  have hown : s.vm.findClass RX7 = some m.cls := findClass_of_methodNamed B.named
  have hlocks := B.notSynchronized
  have hP := hI.1
  have hB := hI.2
  have hK := hB.1
  have hNW := hB.2.1
  have hS : va_S (mA g) s.heap s.heap [] := va_S.rf
  have hw0 := hts (.constant RX7 95 (-1000001)) (by decide +kernel)
  have hw1 := hts (.fieldLink RX7 83 "SownPathsModel" "widths" "[I") (by decide +kernel)
  have hw2 := hts (.constant RX7 276 (-1000006)) (by decide +kernel)
  have hw3 := hts (.fieldLink RX7 86 "SownPathsModel" "sizes" "[I") (by decide +kernel)
  have hw4 := hts (.fieldLink RX7 92 "SownPathsModel" "moved" "[I") (by decide +kernel)
  have hw5 := hts (.fieldLink RX7 89 "SownPathsModel" "numbers" "[I") (by decide +kernel)
  have hw6 := hts (.constant RX7 373 (-1000003)) (by decide +kernel)
  have iwX7 : ∀ w ∈ wsX70, w ∈ wsX7_copy := fun w h => List.mem_cons_of_mem _ (List.mem_append_right _ h)
  have hl := lv_entry ([.ref (gm g 0), .int a1, .int a2, .int a3, .int a4, .int a5]) (n := 7) (Nat.le_of_ble_eq_true rfl)
  rw [lg_entry_eq]
  generalize (lg_sl ([.ref (gm g 0), .int a1, .int a2, .int a3, .int a4, .int a5]) ++ List.replicate (7 - (lg_sl ([.ref (gm g 0), .int a1, .int a2, .int a3, .int a4, .int a5])).length) Slot.unset).toArray = ls at hl ⊢
  have hl : lv_has ls 7 [(0, .ref (gm g 0)), (1, .int a1), (2, .int a2), (3, .int a3), (4, .int a4), (5, .int a5)] := hl
  unfold fX7_copy at hf
  refine lv_iload_n hx hb dX7_copy_0 rfl (lv_at hl 1 rfl) ?_
  obtain ⟨q1, hq1, hf⟩ := bd_some hf
  refine kr_S (st1 := [.int q1]) (va_runS (As := [.int a1]) (rest := []) ⟨hx, hb, hml, hown, hts⟩ (ct_X7_isSheet l n a1 q1 hq1) (va_cwS 1 hts gX7_copy_X7_isSheet rfl rfl rfl hn_X7_isSheet ⟨Nat.le_of_ble_eq_true rfl, Nat.le_of_ble_eq_true rfl⟩) ⟨bl_N, pr_N rfl hNW⟩ rfl rfl hl.1 rfl (lv_room (Nat.le_of_ble_eq_true rfl)) dX7_copy_1 ⟨Nat.le_refl _, Nat.le_refl _⟩) rfl (fun hn2 => ?_)
  refine lv_if_eq (tgt := 14) hx hb dX7_copy_4 (by decide) (fun hc3 => ?_) (fun hc3 => ?_)
  · have hf := (if_pos hc3).symm.trans hf
    refine lv_aload_n hx hb dX7_copy_14 rfl (lv_at hl 0 rfl) ?_
    refine lv_ldc (v := (-1000001 : Int32)) hx hb hown hw0 dX7_copy_15 ?_
    obtain ⟨q4, hq4, hf⟩ := bd_some hf
    refine kr_W (st1 := [.int q4.1]) (va_runV (As := [.int (-1000001 : Int32)]) (rest := []) ⟨hx, hb, hml, hown, hts⟩ (ct_X7_finding l n g m_now m_kept m_aside m_isKept m_found m_steps m_queue m_lives m_treads m_tape m_taped m_begins m_ends m_sort m_value m_isWrong m_items m_itemMany m_seedThen m_groundThen m_widths m_sizes m_numbers m_moved (-1000001 : Int32) q4 hq4) (cwV 1 hts gX7_copy_X7_finding rfl rfl rfl hd_X7_finding ⟨Nat.le_of_ble_eq_true rfl, Nat.le_of_ble_eq_true rfl⟩) ⟨bl_M, va_recv hK hP (ci := 5) (q0 := 0) rfl k_md, pr_M rfl hB hP hS⟩ rfl rfl hl.1 rfl (lv_room (Nat.le_of_ble_eq_true rfl)) dX7_copy_17 ⟨Nat.le_refl _, Nat.le_refl _⟩) hS rfl (fun hn5 H locs hP hS => ?_)
    have hP : va_P g.1 vwCl (mw g (m_now, m_kept, m_aside, m_isKept, q4.2, m_steps, m_queue, m_lives, m_treads, m_tape, m_taped, m_begins, m_ends, m_sort, m_value, m_isWrong, m_items, m_itemMany, m_seedThen, m_groundThen, m_widths, m_sizes, m_numbers, m_moved)) H := hP
    have hres : (q4.1, q4.2, m_numbers, m_moved) = res := (Option.some.inj hf)
    have hP := w_eq (congrArg (fun z => mw g (m_now, m_kept, m_aside, m_isKept, z.2.1, m_steps, m_queue, m_lives, m_treads, m_tape, m_taped, m_begins, m_ends, m_sort, m_value, m_isWrong, m_items, m_itemMany, m_seedThen, m_groundThen, m_widths, m_sizes, z.2.2.1, z.2.2.2)) hres) hP
    exact W.iret (v := q4.1) hx hb hr (fun t ht hW => ⟨congrArg (fun z => Outcome.returned (some (Value.int z.1))) hres, trivial, by rw [ht]; exact hP, hS.F ht⟩) hS.2.2 dX7_copy_20
  · have hf := (if_neg hc3).symm.trans hf
    refine lv_iload_n hx hb dX7_copy_7 rfl (lv_at hl 3 rfl) ?_
    obtain ⟨q6, hq6, hf⟩ := bd_some hf
    refine kr_S (st1 := [.int q6]) (va_runS (As := [.int a3]) (rest := []) ⟨hx, hb, hml, hown, hts⟩ (ct_X7_isSheet l n a3 q6 hq6) (va_cwS 1 hts gX7_copy_X7_isSheet rfl rfl rfl hn_X7_isSheet ⟨Nat.le_of_ble_eq_true rfl, Nat.le_of_ble_eq_true rfl⟩) ⟨bl_N, pr_N rfl hNW⟩ rfl rfl hl.1 rfl (lv_room (Nat.le_of_ble_eq_true rfl)) dX7_copy_8 ⟨Nat.le_refl _, Nat.le_refl _⟩) rfl (fun hn7 => ?_)
    refine lv_if_ne (tgt := 21) hx hb dX7_copy_11 (by decide) (fun hc8 => ?_) (fun hc8 => ?_)
    · have hf := (if_neg hc8).symm.trans hf
      refine lv_aload_n hx hb dX7_copy_21 rfl (lv_at hl 0 rfl) ?_
      refine va_get (D := g.1) (ci := 5) (v := .ref (gm g 15)) (C := RX7) (T := TX7) (N := 27) hx hb hts iwX7 hown hK hP 0 k_md rfl 23 (by decide) hw1 (fun _ h9 => h9) rfl dX7_copy_22 ?_
      refine lv_iload_n hx hb dX7_copy_25 rfl (lv_at hl 1 rfl) ?_
      obtain ⟨hg9, hf⟩ := gd_some hf
      refine va_iald (f := m_widths) hx hb hK hP 15 0 k_widths rfl hg9 dX7_copy_26 ?_
      refine lv_if_eq (tgt := 39) hx hb dX7_copy_27 (by decide) (fun hc10 => ?_) (fun hc10 => ?_)
      · have hf := (if_pos hc10).symm.trans hf
        refine lv_aload_n hx hb dX7_copy_39 rfl (lv_at hl 0 rfl) ?_
        refine lv_ldcw (v := (-1000006 : Int32)) hx hb hown hw2 dX7_copy_40 ?_
        obtain ⟨q11, hq11, hf⟩ := bd_some hf
        refine kr_W (st1 := [.int q11.1]) (va_runV (As := [.int (-1000006 : Int32)]) (rest := []) ⟨hx, hb, hml, hown, hts⟩ (ct_X7_finding l n g m_now m_kept m_aside m_isKept m_found m_steps m_queue m_lives m_treads m_tape m_taped m_begins m_ends m_sort m_value m_isWrong m_items m_itemMany m_seedThen m_groundThen m_widths m_sizes m_numbers m_moved (-1000006 : Int32) q11 hq11) (cwV 1 hts gX7_copy_X7_finding rfl rfl rfl hd_X7_finding ⟨Nat.le_of_ble_eq_true rfl, Nat.le_of_ble_eq_true rfl⟩) ⟨bl_M, va_recv hK hP (ci := 5) (q0 := 0) rfl k_md, pr_M rfl hB hP hS⟩ rfl rfl hl.1 rfl (lv_room (Nat.le_of_ble_eq_true rfl)) dX7_copy_43 ⟨Nat.le_refl _, Nat.le_refl _⟩) hS rfl (fun hn12 H locs hP hS => ?_)
        have hP : va_P g.1 vwCl (mw g (m_now, m_kept, m_aside, m_isKept, q11.2, m_steps, m_queue, m_lives, m_treads, m_tape, m_taped, m_begins, m_ends, m_sort, m_value, m_isWrong, m_items, m_itemMany, m_seedThen, m_groundThen, m_widths, m_sizes, m_numbers, m_moved)) H := hP
        have hres : (q11.1, q11.2, m_numbers, m_moved) = res := (Option.some.inj hf)
        have hP := w_eq (congrArg (fun z => mw g (m_now, m_kept, m_aside, m_isKept, z.2.1, m_steps, m_queue, m_lives, m_treads, m_tape, m_taped, m_begins, m_ends, m_sort, m_value, m_isWrong, m_items, m_itemMany, m_seedThen, m_groundThen, m_widths, m_sizes, z.2.2.1, z.2.2.2)) hres) hP
        exact W.iret (v := q11.1) hx hb hr (fun t ht hW => ⟨congrArg (fun z => Outcome.returned (some (Value.int z.1))) hres, trivial, by rw [ht]; exact hP, hS.F ht⟩) hS.2.2 dX7_copy_46
      · have hf := (if_neg hc10).symm.trans hf
        refine lv_aload_n hx hb dX7_copy_30 rfl (lv_at hl 0 rfl) ?_
        refine va_get (D := g.1) (ci := 5) (v := .ref (gm g 15)) (C := RX7) (T := TX7) (N := 27) hx hb hts iwX7 hown hK hP 0 k_md rfl 23 (by decide) hw1 (fun _ h9 => h9) rfl dX7_copy_31 ?_
        refine lv_iload_n hx hb dX7_copy_34 rfl (lv_at hl 3 rfl) ?_
        obtain ⟨hg13, hf⟩ := gd_some hf
        refine va_iald (f := m_widths) hx hb hK hP 15 0 k_widths rfl hg13 dX7_copy_35 ?_
        refine lv_if_ne (tgt := 47) hx hb dX7_copy_36 (by decide) (fun hc14 => ?_) (fun hc14 => ?_)
        · have hf := (if_neg hc14).symm.trans hf
          refine lv_aload_n hx hb dX7_copy_47 rfl (lv_at hl 0 rfl) ?_
          refine va_get (D := g.1) (ci := 5) (v := .ref (gm g 15)) (C := RX7) (T := TX7) (N := 27) hx hb hts iwX7 hown hK hP 0 k_md rfl 23 (by decide) hw1 (fun _ h9 => h9) rfl dX7_copy_48 ?_
          refine lv_iload_n hx hb dX7_copy_51 rfl (lv_at hl 1 rfl) ?_
          obtain ⟨hg15, hf⟩ := gd_some hf
          refine va_iald (f := m_widths) hx hb hK hP 15 0 k_widths rfl hg15 dX7_copy_52 ?_
          refine lv_aload_n hx hb dX7_copy_53 rfl (lv_at hl 0 rfl) ?_
          refine va_get (D := g.1) (ci := 5) (v := .ref (gm g 15)) (C := RX7) (T := TX7) (N := 27) hx hb hts iwX7 hown hK hP 0 k_md rfl 23 (by decide) hw1 (fun _ h9 => h9) rfl dX7_copy_54 ?_
          refine lv_iload_n hx hb dX7_copy_57 rfl (lv_at hl 3 rfl) ?_
          obtain ⟨hg16, hf⟩ := gd_some hf
          refine va_iald (f := m_widths) hx hb hK hP 15 0 k_widths rfl hg16 dX7_copy_58 ?_
          refine lv_icmp_eq (tgt := 70) hx hb dX7_copy_59 (by decide) (fun hc17 => ?_) (fun hc17 => ?_)
          · have hf := (if_pos hc17).symm.trans hf
            refine lv_iload_n hx hb dX7_copy_70 rfl (lv_at hl 2 rfl) ?_
            refine lv_if_lt (tgt := 119) hx hb dX7_copy_71 (by decide) (fun hc18 => ?_) (fun hc18 => ?_)
            · have hf := (if_pos hc18).symm.trans hf
              refine lv_aload_n hx hb dX7_copy_119 rfl (lv_at hl 0 rfl) ?_
              refine lv_ldc (v := (-1000001 : Int32)) hx hb hown hw0 dX7_copy_120 ?_
              obtain ⟨q19, hq19, hf⟩ := bd_some hf
              refine kr_W (st1 := [.int q19.1]) (va_runV (As := [.int (-1000001 : Int32)]) (rest := []) ⟨hx, hb, hml, hown, hts⟩ (ct_X7_finding l n g m_now m_kept m_aside m_isKept m_found m_steps m_queue m_lives m_treads m_tape m_taped m_begins m_ends m_sort m_value m_isWrong m_items m_itemMany m_seedThen m_groundThen m_widths m_sizes m_numbers m_moved (-1000001 : Int32) q19 hq19) (cwV 1 hts gX7_copy_X7_finding rfl rfl rfl hd_X7_finding ⟨Nat.le_of_ble_eq_true rfl, Nat.le_of_ble_eq_true rfl⟩) ⟨bl_M, va_recv hK hP (ci := 5) (q0 := 0) rfl k_md, pr_M rfl hB hP hS⟩ rfl rfl hl.1 rfl (lv_room (Nat.le_of_ble_eq_true rfl)) dX7_copy_122 ⟨Nat.le_refl _, Nat.le_refl _⟩) hS rfl (fun hn20 H locs hP hS => ?_)
              have hP : va_P g.1 vwCl (mw g (m_now, m_kept, m_aside, m_isKept, q19.2, m_steps, m_queue, m_lives, m_treads, m_tape, m_taped, m_begins, m_ends, m_sort, m_value, m_isWrong, m_items, m_itemMany, m_seedThen, m_groundThen, m_widths, m_sizes, m_numbers, m_moved)) H := hP
              have hres : (q19.1, q19.2, m_numbers, m_moved) = res := (Option.some.inj hf)
              have hP := w_eq (congrArg (fun z => mw g (m_now, m_kept, m_aside, m_isKept, z.2.1, m_steps, m_queue, m_lives, m_treads, m_tape, m_taped, m_begins, m_ends, m_sort, m_value, m_isWrong, m_items, m_itemMany, m_seedThen, m_groundThen, m_widths, m_sizes, z.2.2.1, z.2.2.2)) hres) hP
              exact W.iret (v := q19.1) hx hb hr (fun t ht hW => ⟨congrArg (fun z => Outcome.returned (some (Value.int z.1))) hres, trivial, by rw [ht]; exact hP, hS.F ht⟩) hS.2.2 dX7_copy_125
            · have hf := (if_neg hc18).symm.trans hf
              refine lv_iload hx hb dX7_copy_74 (lv_at hl 4 rfl) ?_
              refine lv_if_lt (tgt := 119) hx hb dX7_copy_76 (by decide) (fun hc21 => ?_) (fun hc21 => ?_)
              · have hf := (if_pos hc21).symm.trans hf
                refine lv_aload_n hx hb dX7_copy_119 rfl (lv_at hl 0 rfl) ?_
                refine lv_ldc (v := (-1000001 : Int32)) hx hb hown hw0 dX7_copy_120 ?_
                obtain ⟨q22, hq22, hf⟩ := bd_some hf
                refine kr_W (st1 := [.int q22.1]) (va_runV (As := [.int (-1000001 : Int32)]) (rest := []) ⟨hx, hb, hml, hown, hts⟩ (ct_X7_finding l n g m_now m_kept m_aside m_isKept m_found m_steps m_queue m_lives m_treads m_tape m_taped m_begins m_ends m_sort m_value m_isWrong m_items m_itemMany m_seedThen m_groundThen m_widths m_sizes m_numbers m_moved (-1000001 : Int32) q22 hq22) (cwV 1 hts gX7_copy_X7_finding rfl rfl rfl hd_X7_finding ⟨Nat.le_of_ble_eq_true rfl, Nat.le_of_ble_eq_true rfl⟩) ⟨bl_M, va_recv hK hP (ci := 5) (q0 := 0) rfl k_md, pr_M rfl hB hP hS⟩ rfl rfl hl.1 rfl (lv_room (Nat.le_of_ble_eq_true rfl)) dX7_copy_122 ⟨Nat.le_refl _, Nat.le_refl _⟩) hS rfl (fun hn23 H locs hP hS => ?_)
                have hP : va_P g.1 vwCl (mw g (m_now, m_kept, m_aside, m_isKept, q22.2, m_steps, m_queue, m_lives, m_treads, m_tape, m_taped, m_begins, m_ends, m_sort, m_value, m_isWrong, m_items, m_itemMany, m_seedThen, m_groundThen, m_widths, m_sizes, m_numbers, m_moved)) H := hP
                have hres : (q22.1, q22.2, m_numbers, m_moved) = res := (Option.some.inj hf)
                have hP := w_eq (congrArg (fun z => mw g (m_now, m_kept, m_aside, m_isKept, z.2.1, m_steps, m_queue, m_lives, m_treads, m_tape, m_taped, m_begins, m_ends, m_sort, m_value, m_isWrong, m_items, m_itemMany, m_seedThen, m_groundThen, m_widths, m_sizes, z.2.2.1, z.2.2.2)) hres) hP
                exact W.iret (v := q22.1) hx hb hr (fun t ht hW => ⟨congrArg (fun z => Outcome.returned (some (Value.int z.1))) hres, trivial, by rw [ht]; exact hP, hS.F ht⟩) hS.2.2 dX7_copy_125
              · have hf := (if_neg hc21).symm.trans hf
                refine lv_iload hx hb dX7_copy_79 (lv_at hl 5 rfl) ?_
                refine lv_if_lt (tgt := 119) hx hb dX7_copy_81 (by decide) (fun hc24 => ?_) (fun hc24 => ?_)
                · have hf := (if_pos hc24).symm.trans hf
                  refine lv_aload_n hx hb dX7_copy_119 rfl (lv_at hl 0 rfl) ?_
                  refine lv_ldc (v := (-1000001 : Int32)) hx hb hown hw0 dX7_copy_120 ?_
                  obtain ⟨q25, hq25, hf⟩ := bd_some hf
                  refine kr_W (st1 := [.int q25.1]) (va_runV (As := [.int (-1000001 : Int32)]) (rest := []) ⟨hx, hb, hml, hown, hts⟩ (ct_X7_finding l n g m_now m_kept m_aside m_isKept m_found m_steps m_queue m_lives m_treads m_tape m_taped m_begins m_ends m_sort m_value m_isWrong m_items m_itemMany m_seedThen m_groundThen m_widths m_sizes m_numbers m_moved (-1000001 : Int32) q25 hq25) (cwV 1 hts gX7_copy_X7_finding rfl rfl rfl hd_X7_finding ⟨Nat.le_of_ble_eq_true rfl, Nat.le_of_ble_eq_true rfl⟩) ⟨bl_M, va_recv hK hP (ci := 5) (q0 := 0) rfl k_md, pr_M rfl hB hP hS⟩ rfl rfl hl.1 rfl (lv_room (Nat.le_of_ble_eq_true rfl)) dX7_copy_122 ⟨Nat.le_refl _, Nat.le_refl _⟩) hS rfl (fun hn26 H locs hP hS => ?_)
                  have hP : va_P g.1 vwCl (mw g (m_now, m_kept, m_aside, m_isKept, q25.2, m_steps, m_queue, m_lives, m_treads, m_tape, m_taped, m_begins, m_ends, m_sort, m_value, m_isWrong, m_items, m_itemMany, m_seedThen, m_groundThen, m_widths, m_sizes, m_numbers, m_moved)) H := hP
                  have hres : (q25.1, q25.2, m_numbers, m_moved) = res := (Option.some.inj hf)
                  have hP := w_eq (congrArg (fun z => mw g (m_now, m_kept, m_aside, m_isKept, z.2.1, m_steps, m_queue, m_lives, m_treads, m_tape, m_taped, m_begins, m_ends, m_sort, m_value, m_isWrong, m_items, m_itemMany, m_seedThen, m_groundThen, m_widths, m_sizes, z.2.2.1, z.2.2.2)) hres) hP
                  exact W.iret (v := q25.1) hx hb hr (fun t ht hW => ⟨congrArg (fun z => Outcome.returned (some (Value.int z.1))) hres, trivial, by rw [ht]; exact hP, hS.F ht⟩) hS.2.2 dX7_copy_125
                · have hf := (if_neg hc24).symm.trans hf
                  refine lv_iload_n hx hb dX7_copy_84 rfl (lv_at hl 2 rfl) ?_
                  refine lv_i2l (v := a2.toInt64) hx hb dX7_copy_85 rfl ?_
                  refine lv_iload hx hb dX7_copy_86 (lv_at hl 5 rfl) ?_
                  refine lv_i2l (v := a5.toInt64) hx hb dX7_copy_88 rfl ?_
                  refine lv_ladd hx hb dX7_copy_89 ?_
                  refine lv_aload_n hx hb dX7_copy_90 rfl (lv_at hl 0 rfl) ?_
                  refine va_get (D := g.1) (ci := 5) (v := .ref (gm g 16)) (C := RX7) (T := TX7) (N := 27) hx hb hts iwX7 hown hK hP 0 k_md rfl 24 (by decide) hw3 (fun _ h9 => h9) rfl dX7_copy_91 ?_
                  refine lv_iload_n hx hb dX7_copy_94 rfl (lv_at hl 1 rfl) ?_
                  obtain ⟨hg27, hf⟩ := gd_some hf
                  refine va_iald (f := m_sizes) hx hb hK hP 16 0 k_sizes rfl hg27 dX7_copy_95 ?_
                  refine lv_i2l (v := ((m_sizes a1.toNatClampNeg).toInt64)) hx hb dX7_copy_96 rfl ?_
                  refine W.lcmp hx hb dX7_copy_97 ?_
                  refine lv_if_gt (tgt := 119) hx hb dX7_copy_98 (by decide) (fun hc28 => ?_) (fun hc28 => ?_)
                  · have hc28 := (lg_cmp_gt (a2.toInt64 + a5.toInt64) ((m_sizes a1.toNatClampNeg).toInt64)).mp hc28
                    have hf := (if_pos hc28).symm.trans hf
                    refine lv_aload_n hx hb dX7_copy_119 rfl (lv_at hl 0 rfl) ?_
                    refine lv_ldc (v := (-1000001 : Int32)) hx hb hown hw0 dX7_copy_120 ?_
                    obtain ⟨q29, hq29, hf⟩ := bd_some hf
                    refine kr_W (st1 := [.int q29.1]) (va_runV (As := [.int (-1000001 : Int32)]) (rest := []) ⟨hx, hb, hml, hown, hts⟩ (ct_X7_finding l n g m_now m_kept m_aside m_isKept m_found m_steps m_queue m_lives m_treads m_tape m_taped m_begins m_ends m_sort m_value m_isWrong m_items m_itemMany m_seedThen m_groundThen m_widths m_sizes m_numbers m_moved (-1000001 : Int32) q29 hq29) (cwV 1 hts gX7_copy_X7_finding rfl rfl rfl hd_X7_finding ⟨Nat.le_of_ble_eq_true rfl, Nat.le_of_ble_eq_true rfl⟩) ⟨bl_M, va_recv hK hP (ci := 5) (q0 := 0) rfl k_md, pr_M rfl hB hP hS⟩ rfl rfl hl.1 rfl (lv_room (Nat.le_of_ble_eq_true rfl)) dX7_copy_122 ⟨Nat.le_refl _, Nat.le_refl _⟩) hS rfl (fun hn30 H locs hP hS => ?_)
                    have hP : va_P g.1 vwCl (mw g (m_now, m_kept, m_aside, m_isKept, q29.2, m_steps, m_queue, m_lives, m_treads, m_tape, m_taped, m_begins, m_ends, m_sort, m_value, m_isWrong, m_items, m_itemMany, m_seedThen, m_groundThen, m_widths, m_sizes, m_numbers, m_moved)) H := hP
                    have hres : (q29.1, q29.2, m_numbers, m_moved) = res := (Option.some.inj hf)
                    have hP := w_eq (congrArg (fun z => mw g (m_now, m_kept, m_aside, m_isKept, z.2.1, m_steps, m_queue, m_lives, m_treads, m_tape, m_taped, m_begins, m_ends, m_sort, m_value, m_isWrong, m_items, m_itemMany, m_seedThen, m_groundThen, m_widths, m_sizes, z.2.2.1, z.2.2.2)) hres) hP
                    exact W.iret (v := q29.1) hx hb hr (fun t ht hW => ⟨congrArg (fun z => Outcome.returned (some (Value.int z.1))) hres, trivial, by rw [ht]; exact hP, hS.F ht⟩) hS.2.2 dX7_copy_125
                  · have hc28 : ¬ (((m_sizes a1.toNatClampNeg).toInt64) < (a2.toInt64 + a5.toInt64)) := fun h => hc28 ((lg_cmp_gt (a2.toInt64 + a5.toInt64) ((m_sizes a1.toNatClampNeg).toInt64)).mpr h)
                    have hf := (if_neg hc28).symm.trans hf
                    refine lv_iload hx hb dX7_copy_101 (lv_at hl 4 rfl) ?_
                    refine lv_i2l (v := a4.toInt64) hx hb dX7_copy_103 rfl ?_
                    refine lv_iload hx hb dX7_copy_104 (lv_at hl 5 rfl) ?_
                    refine lv_i2l (v := a5.toInt64) hx hb dX7_copy_106 rfl ?_
                    refine lv_ladd hx hb dX7_copy_107 ?_
                    refine lv_aload_n hx hb dX7_copy_108 rfl (lv_at hl 0 rfl) ?_
                    refine va_get (D := g.1) (ci := 5) (v := .ref (gm g 16)) (C := RX7) (T := TX7) (N := 27) hx hb hts iwX7 hown hK hP 0 k_md rfl 24 (by decide) hw3 (fun _ h9 => h9) rfl dX7_copy_109 ?_
                    refine lv_iload_n hx hb dX7_copy_112 rfl (lv_at hl 3 rfl) ?_
                    obtain ⟨hg31, hf⟩ := gd_some hf
                    refine va_iald (f := m_sizes) hx hb hK hP 16 0 k_sizes rfl hg31 dX7_copy_113 ?_
                    refine lv_i2l (v := ((m_sizes a3.toNatClampNeg).toInt64)) hx hb dX7_copy_114 rfl ?_
                    refine W.lcmp hx hb dX7_copy_115 ?_
                    refine lv_if_le (tgt := 126) hx hb dX7_copy_116 (by decide) (fun hc32 => ?_) (fun hc32 => ?_)
                    · have hc32 := (lg_cmp_le (a4.toInt64 + a5.toInt64) ((m_sizes a3.toNatClampNeg).toInt64)).mp hc32
                      have hf := (if_pos hc32).symm.trans hf
                      refine lv_iconst (v := (0 : Int32)) hx hb dX7_copy_126 (by decide) ?_
                      refine lv_istore (lv' := [(6, .int (0 : Int32)), (0, .ref (gm g 0)), (1, .int a1), (2, .int a2), (3, .int a3), (4, .int a4), (5, .int a5)]) hx hb dX7_copy_127 hl (by decide) rfl (fun ls hl => ?_)
                      refine lp_run hf (fun s33 => ∀ (H : Heap) (locs : List Loc) (ls : Array Slot), va_P g.1 vwCl (mw g (m_now, m_kept, m_aside, m_isKept, m_found, m_steps, m_queue, m_lives, m_treads, m_tape, m_taped, m_begins, m_ends, m_sort, m_value, m_isWrong, m_items, m_itemMany, m_seedThen, m_groundThen, m_widths, m_sizes, m_numbers, s33.2)) H → va_S (mA g) s.heap H locs → lv_has ls 7 [(0, .ref (gm g 0)), (1, .int a1), (2, .int a2), (3, .int a3), (4, .int a4), (5, .int a5), (6, .int s33.1)] → W p l e (headSpec wsX7_copy ({ frames := 2, cells := 0, slots := 0, locals := 42 })).room s m ([.ref (gm g 0), .int a1, .int a2, .int a3, .int a4, .int a5] : List Value).toArray below meth c H locs 0 0 (MQ below (qW (some (.int res.1)) True g.1 (mw g (m_now, m_kept, m_aside, m_isKept, res.2.1, m_steps, m_queue, m_lives, m_treads, m_tape, m_taped, m_begins, m_ends, m_sort, m_value, m_isWrong, m_items, m_itemMany, m_seedThen, m_groundThen, m_widths, m_sizes, res.2.2.1, res.2.2.2)) (mA g)) ([.ref (gm g 0), .int a1, .int a2, .int a3, .int a4, .int a5] : List Value).toArray s 0 0 (mA g)) (F0 m 129 ls [])) (fun v34 => ∀ (H : Heap) (locs : List Loc) (ls : Array Slot), va_P g.1 vwCl (mw g (m_now, m_kept, m_aside, m_isKept, m_found, m_steps, m_queue, m_lives, m_treads, m_tape, m_taped, m_begins, m_ends, m_sort, m_value, m_isWrong, m_items, m_itemMany, m_seedThen, m_groundThen, m_widths, m_sizes, m_numbers, v34.2)) H → va_S (mA g) s.heap H locs → lv_has ls 7 [(0, .ref (gm g 0)), (3, .int a3), (4, .int a4), (5, .int a5)] → W p l e (headSpec wsX7_copy ({ frames := 2, cells := 0, slots := 0, locals := 42 })).room s m ([.ref (gm g 0), .int a1, .int a2, .int a3, .int a4, .int a5] : List Value).toArray below meth c H locs 0 0 (MQ below (qW (some (.int res.1)) True g.1 (mw g (m_now, m_kept, m_aside, m_isKept, res.2.1, m_steps, m_queue, m_lives, m_treads, m_tape, m_taped, m_begins, m_ends, m_sort, m_value, m_isWrong, m_items, m_itemMany, m_seedThen, m_groundThen, m_widths, m_sizes, res.2.2.1, res.2.2.2)) (mA g)) ([.ref (gm g 0), .int a1, .int a2, .int a3, .int a4, .int a5] : List Value).toArray s 0 0 (mA g)) (F0 m 163 ls [])) ?_ ?_ _ _ _ hP hS (lv_sub hl [1, 2, 3, 4, 5, 6, 0] rfl)
                      · intro v34 hf H locs ls hP hS hl
                        refine lv_iconst (v := (0 : Int32)) hx hb dX7_copy_163 (by decide) ?_
                        refine lv_istore (lv' := [(6, .int (0 : Int32)), (0, .ref (gm g 0)), (3, .int a3), (4, .int a4), (5, .int a5)]) hx hb dX7_copy_164 hl (by decide) rfl (fun ls hl => ?_)
                        refine lp_run hf (fun s38 => ∀ (H : Heap) (locs : List Loc) (ls : Array Slot), va_P g.1 vwCl (mw g (m_now, m_kept, m_aside, m_isKept, m_found, m_steps, m_queue, m_lives, m_treads, m_tape, m_taped, m_begins, m_ends, m_sort, m_value, m_isWrong, m_items, m_itemMany, m_seedThen, m_groundThen, m_widths, m_sizes, s38.2, v34.2)) H → va_S (mA g) s.heap H locs → lv_has ls 7 [(0, .ref (gm g 0)), (3, .int a3), (4, .int a4), (5, .int a5), (6, .int s38.1)] → W p l e (headSpec wsX7_copy ({ frames := 2, cells := 0, slots := 0, locals := 42 })).room s m ([.ref (gm g 0), .int a1, .int a2, .int a3, .int a4, .int a5] : List Value).toArray below meth c H locs 0 0 (MQ below (qW (some (.int res.1)) True g.1 (mw g (m_now, m_kept, m_aside, m_isKept, res.2.1, m_steps, m_queue, m_lives, m_treads, m_tape, m_taped, m_begins, m_ends, m_sort, m_value, m_isWrong, m_items, m_itemMany, m_seedThen, m_groundThen, m_widths, m_sizes, res.2.2.1, res.2.2.2)) (mA g)) ([.ref (gm g 0), .int a1, .int a2, .int a3, .int a4, .int a5] : List Value).toArray s 0 0 (mA g)) (F0 m 166 ls [])) (fun v39 => ∀ (H : Heap) (locs : List Loc) (ls : Array Slot), va_P g.1 vwCl (mw g (m_now, m_kept, m_aside, m_isKept, m_found, m_steps, m_queue, m_lives, m_treads, m_tape, m_taped, m_begins, m_ends, m_sort, m_value, m_isWrong, m_items, m_itemMany, m_seedThen, m_groundThen, m_widths, m_sizes, v39.2, v34.2)) H → va_S (mA g) s.heap H locs → lv_has ls 7 [(5, .int a5)] → W p l e (headSpec wsX7_copy ({ frames := 2, cells := 0, slots := 0, locals := 42 })).room s m ([.ref (gm g 0), .int a1, .int a2, .int a3, .int a4, .int a5] : List Value).toArray below meth c H locs 0 0 (MQ below (qW (some (.int res.1)) True g.1 (mw g (m_now, m_kept, m_aside, m_isKept, res.2.1, m_steps, m_queue, m_lives, m_treads, m_tape, m_taped, m_begins, m_ends, m_sort, m_value, m_isWrong, m_items, m_itemMany, m_seedThen, m_groundThen, m_widths, m_sizes, res.2.2.1, res.2.2.2)) (mA g)) ([.ref (gm g 0), .int a1, .int a2, .int a3, .int a4, .int a5] : List Value).toArray s 0 0 (mA g)) (F0 m 201 ls [])) ?_ ?_ _ _ _ hP hS (lv_sub hl [1, 2, 3, 4, 0] rfl)
                        · intro v39 hf H locs ls hP hS hl
                          refine lv_iload hx hb dX7_copy_201 (lv_at hl 0 rfl) ?_
                          have hres : (a5, m_found, v39.2, v34.2) = res := (Option.some.inj hf)
                          have hP := w_eq (congrArg (fun z => mw g (m_now, m_kept, m_aside, m_isKept, z.2.1, m_steps, m_queue, m_lives, m_treads, m_tape, m_taped, m_begins, m_ends, m_sort, m_value, m_isWrong, m_items, m_itemMany, m_seedThen, m_groundThen, m_widths, m_sizes, z.2.2.1, z.2.2.2)) hres) hP
                          exact W.iret (v := a5) hx hb hr (fun t ht hW => ⟨congrArg (fun z => Outcome.returned (some (Value.int z.1))) hres, trivial, by rw [ht]; exact hP, hS.F ht⟩) hS.2.2 dX7_copy_203
                        · intro s38 r1 hf hback1 hexit1 H locs ls hP hS hl
                          refine lv_iload hx hb dX7_copy_166 (lv_at hl 4 rfl) ?_
                          refine lv_iload hx hb dX7_copy_168 (lv_at hl 3 rfl) ?_
                          refine lv_icmp_ge (tgt := 201) hx hb dX7_copy_170 (by decide) (fun hc40 => ?_) (fun hc40 => ?_)
                          · have hf := (if_pos hc40).symm.trans hf
                            exact hexit1 (s38.1, s38.2) (Option.some.inj hf).symm H locs ls hP hS (lv_sub hl [3] rfl)
                          · have hf := (if_neg hc40).symm.trans hf
                            refine lv_aload_n hx hb dX7_copy_173 rfl (lv_at hl 0 rfl) ?_
                            refine va_get (D := g.1) (ci := 5) (v := .ref (gm g 17)) (C := RX7) (T := TX7) (N := 27) hx hb hts iwX7 hown hK hP 0 k_md rfl 25 (by decide) hw5 (fun _ h9 => h9) rfl dX7_copy_174 ?_
                            refine lv_bipush (v := (40 : Int32)) hx hb dX7_copy_177 (by decide) ?_
                            refine lv_iload_n hx hb dX7_copy_179 rfl (lv_at hl 1 rfl) ?_
                            refine lv_imul hx hb dX7_copy_180 ?_
                            refine lv_iload hx hb dX7_copy_181 (lv_at hl 2 rfl) ?_
                            refine lv_iadd hx hb dX7_copy_183 ?_
                            refine lv_iload hx hb dX7_copy_184 (lv_at hl 4 rfl) ?_
                            refine lv_iadd hx hb dX7_copy_186 ?_
                            refine lv_aload_n hx hb dX7_copy_187 rfl (lv_at hl 0 rfl) ?_
                            refine va_get (D := g.1) (ci := 5) (v := .ref (gm g 18)) (C := RX7) (T := TX7) (N := 27) hx hb hts iwX7 hown hK hP 0 k_md rfl 26 (by decide) hw4 (fun _ h9 => h9) rfl dX7_copy_188 ?_
                            refine lv_iload hx hb dX7_copy_191 (lv_at hl 4 rfl) ?_
                            obtain ⟨hg41, hf⟩ := gd_some hf
                            refine va_iald (f := v34.2) hx hb hK hP 18 0 k_moved rfl hg41 dX7_copy_193 ?_
                            obtain ⟨hg42, hf⟩ := gd_some hf
                            refine va_iast (f := s38.2) hx hb hK hP (mD hB.2.2.1 _) hS 17 0 k_numbers rfl hg42 dX7_copy_194 (fun H locs hP _ hS => ?_)
                            have hP : va_P g.1 vwCl (mw g (m_now, m_kept, m_aside, m_isKept, m_found, m_steps, m_queue, m_lives, m_treads, m_tape, m_taped, m_begins, m_ends, m_sort, m_value, m_isWrong, m_items, m_itemMany, m_seedThen, m_groundThen, m_widths, m_sizes, (upd s38.2 ((((40 : Int32) * a3) + a4) + s38.1).toNatClampNeg (v34.2 s38.1.toNatClampNeg)), v34.2)) H := w_eq (k_set_numbers (upd s38.2 ((((40 : Int32) * a3) + a4) + s38.1).toNatClampNeg (v34.2 s38.1.toNatClampNeg))) hP
                            refine lv_iinc (v := (s38.1 + (1 : Int32))) (lv' := [(6, .int (s38.1 + (1 : Int32))), (0, .ref (gm g 0)), (3, .int a3), (4, .int a4), (5, .int a5)]) hx hb dX7_copy_195 hl (k := 4) rfl (congrArg (fun y => s38.1 + y) (by decide : Int32.ofInt (1) = (1 : Int32))) (by decide) rfl (fun ls hl => ?_)
                            refine lv_goto (tgt := 166) hx hb dX7_copy_198 (by decide) ?_
                            exact hback1 _ (Option.some.inj hf).symm H locs ls hP hS (lv_sub hl [1, 2, 3, 4, 0] rfl)
                      · intro s33 r1 hf hback1 hexit1 H locs ls hP hS hl
                        refine lv_iload hx hb dX7_copy_129 (lv_at hl 6 rfl) ?_
                        refine lv_iload hx hb dX7_copy_131 (lv_at hl 5 rfl) ?_
                        refine lv_icmp_ge (tgt := 163) hx hb dX7_copy_133 (by decide) (fun hc35 => ?_) (fun hc35 => ?_)
                        · have hf := (if_pos hc35).symm.trans hf
                          exact hexit1 (s33.1, s33.2) (Option.some.inj hf).symm H locs ls hP hS (lv_sub hl [0, 3, 4, 5] rfl)
                        · have hf := (if_neg hc35).symm.trans hf
                          refine lv_aload_n hx hb dX7_copy_136 rfl (lv_at hl 0 rfl) ?_
                          refine va_get (D := g.1) (ci := 5) (v := .ref (gm g 18)) (C := RX7) (T := TX7) (N := 27) hx hb hts iwX7 hown hK hP 0 k_md rfl 26 (by decide) hw4 (fun _ h9 => h9) rfl dX7_copy_137 ?_
                          refine lv_iload hx hb dX7_copy_140 (lv_at hl 6 rfl) ?_
                          refine lv_aload_n hx hb dX7_copy_142 rfl (lv_at hl 0 rfl) ?_
                          refine va_get (D := g.1) (ci := 5) (v := .ref (gm g 17)) (C := RX7) (T := TX7) (N := 27) hx hb hts iwX7 hown hK hP 0 k_md rfl 25 (by decide) hw5 (fun _ h9 => h9) rfl dX7_copy_143 ?_
                          refine lv_bipush (v := (40 : Int32)) hx hb dX7_copy_146 (by decide) ?_
                          refine lv_iload_n hx hb dX7_copy_148 rfl (lv_at hl 1 rfl) ?_
                          refine lv_imul hx hb dX7_copy_149 ?_
                          refine lv_iload_n hx hb dX7_copy_150 rfl (lv_at hl 2 rfl) ?_
                          refine lv_iadd hx hb dX7_copy_151 ?_
                          refine lv_iload hx hb dX7_copy_152 (lv_at hl 6 rfl) ?_
                          refine lv_iadd hx hb dX7_copy_154 ?_
                          obtain ⟨hg36, hf⟩ := gd_some hf
                          refine va_iald (f := m_numbers) hx hb hK hP 17 0 k_numbers rfl hg36 dX7_copy_155 ?_
                          obtain ⟨hg37, hf⟩ := gd_some hf
                          refine va_iast (f := s33.2) hx hb hK hP (mD hB.2.2.1 _) hS 18 0 k_moved rfl hg37 dX7_copy_156 (fun H locs hP _ hS => ?_)
                          have hP : va_P g.1 vwCl (mw g (m_now, m_kept, m_aside, m_isKept, m_found, m_steps, m_queue, m_lives, m_treads, m_tape, m_taped, m_begins, m_ends, m_sort, m_value, m_isWrong, m_items, m_itemMany, m_seedThen, m_groundThen, m_widths, m_sizes, m_numbers, (upd s33.2 s33.1.toNatClampNeg (m_numbers ((((40 : Int32) * a1) + a2) + s33.1).toNatClampNeg)))) H := w_eq (k_set_moved (upd s33.2 s33.1.toNatClampNeg (m_numbers ((((40 : Int32) * a1) + a2) + s33.1).toNatClampNeg))) hP
                          refine lv_iinc (v := (s33.1 + (1 : Int32))) (lv' := [(6, .int (s33.1 + (1 : Int32))), (0, .ref (gm g 0)), (1, .int a1), (2, .int a2), (3, .int a3), (4, .int a4), (5, .int a5)]) hx hb dX7_copy_157 hl (k := 6) rfl (congrArg (fun y => s33.1 + y) (by decide : Int32.ofInt (1) = (1 : Int32))) (by decide) rfl (fun ls hl => ?_)
                          refine lv_goto (tgt := 129) hx hb dX7_copy_160 (by decide) ?_
                          exact hback1 _ (Option.some.inj hf).symm H locs ls hP hS (lv_sub hl [1, 2, 3, 4, 5, 6, 0] rfl)
                    · have hc32 : ¬ ((a4.toInt64 + a5.toInt64) ≤ ((m_sizes a3.toNatClampNeg).toInt64)) := fun h => hc32 ((lg_cmp_le (a4.toInt64 + a5.toInt64) ((m_sizes a3.toNatClampNeg).toInt64)).mpr h)
                      have hf := (if_neg hc32).symm.trans hf
                      refine lv_aload_n hx hb dX7_copy_119 rfl (lv_at hl 0 rfl) ?_
                      refine lv_ldc (v := (-1000001 : Int32)) hx hb hown hw0 dX7_copy_120 ?_
                      obtain ⟨q43, hq43, hf⟩ := bd_some hf
                      refine kr_W (st1 := [.int q43.1]) (va_runV (As := [.int (-1000001 : Int32)]) (rest := []) ⟨hx, hb, hml, hown, hts⟩ (ct_X7_finding l n g m_now m_kept m_aside m_isKept m_found m_steps m_queue m_lives m_treads m_tape m_taped m_begins m_ends m_sort m_value m_isWrong m_items m_itemMany m_seedThen m_groundThen m_widths m_sizes m_numbers m_moved (-1000001 : Int32) q43 hq43) (cwV 1 hts gX7_copy_X7_finding rfl rfl rfl hd_X7_finding ⟨Nat.le_of_ble_eq_true rfl, Nat.le_of_ble_eq_true rfl⟩) ⟨bl_M, va_recv hK hP (ci := 5) (q0 := 0) rfl k_md, pr_M rfl hB hP hS⟩ rfl rfl hl.1 rfl (lv_room (Nat.le_of_ble_eq_true rfl)) dX7_copy_122 ⟨Nat.le_refl _, Nat.le_refl _⟩) hS rfl (fun hn44 H locs hP hS => ?_)
                      have hP : va_P g.1 vwCl (mw g (m_now, m_kept, m_aside, m_isKept, q43.2, m_steps, m_queue, m_lives, m_treads, m_tape, m_taped, m_begins, m_ends, m_sort, m_value, m_isWrong, m_items, m_itemMany, m_seedThen, m_groundThen, m_widths, m_sizes, m_numbers, m_moved)) H := hP
                      have hres : (q43.1, q43.2, m_numbers, m_moved) = res := (Option.some.inj hf)
                      have hP := w_eq (congrArg (fun z => mw g (m_now, m_kept, m_aside, m_isKept, z.2.1, m_steps, m_queue, m_lives, m_treads, m_tape, m_taped, m_begins, m_ends, m_sort, m_value, m_isWrong, m_items, m_itemMany, m_seedThen, m_groundThen, m_widths, m_sizes, z.2.2.1, z.2.2.2)) hres) hP
                      exact W.iret (v := q43.1) hx hb hr (fun t ht hW => ⟨congrArg (fun z => Outcome.returned (some (Value.int z.1))) hres, trivial, by rw [ht]; exact hP, hS.F ht⟩) hS.2.2 dX7_copy_125
          · have hf := (if_neg hc17).symm.trans hf
            refine lv_aload_n hx hb dX7_copy_62 rfl (lv_at hl 0 rfl) ?_
            refine lv_ldcw (v := (-1000003 : Int32)) hx hb hown hw6 dX7_copy_63 ?_
            obtain ⟨q45, hq45, hf⟩ := bd_some hf
            refine kr_W (st1 := [.int q45.1]) (va_runV (As := [.int (-1000003 : Int32)]) (rest := []) ⟨hx, hb, hml, hown, hts⟩ (ct_X7_finding l n g m_now m_kept m_aside m_isKept m_found m_steps m_queue m_lives m_treads m_tape m_taped m_begins m_ends m_sort m_value m_isWrong m_items m_itemMany m_seedThen m_groundThen m_widths m_sizes m_numbers m_moved (-1000003 : Int32) q45 hq45) (cwV 1 hts gX7_copy_X7_finding rfl rfl rfl hd_X7_finding ⟨Nat.le_of_ble_eq_true rfl, Nat.le_of_ble_eq_true rfl⟩) ⟨bl_M, va_recv hK hP (ci := 5) (q0 := 0) rfl k_md, pr_M rfl hB hP hS⟩ rfl rfl hl.1 rfl (lv_room (Nat.le_of_ble_eq_true rfl)) dX7_copy_66 ⟨Nat.le_refl _, Nat.le_refl _⟩) hS rfl (fun hn46 H locs hP hS => ?_)
            have hP : va_P g.1 vwCl (mw g (m_now, m_kept, m_aside, m_isKept, q45.2, m_steps, m_queue, m_lives, m_treads, m_tape, m_taped, m_begins, m_ends, m_sort, m_value, m_isWrong, m_items, m_itemMany, m_seedThen, m_groundThen, m_widths, m_sizes, m_numbers, m_moved)) H := hP
            have hres : (q45.1, q45.2, m_numbers, m_moved) = res := (Option.some.inj hf)
            have hP := w_eq (congrArg (fun z => mw g (m_now, m_kept, m_aside, m_isKept, z.2.1, m_steps, m_queue, m_lives, m_treads, m_tape, m_taped, m_begins, m_ends, m_sort, m_value, m_isWrong, m_items, m_itemMany, m_seedThen, m_groundThen, m_widths, m_sizes, z.2.2.1, z.2.2.2)) hres) hP
            exact W.iret (v := q45.1) hx hb hr (fun t ht hW => ⟨congrArg (fun z => Outcome.returned (some (Value.int z.1))) hres, trivial, by rw [ht]; exact hP, hS.F ht⟩) hS.2.2 dX7_copy_69
        · have hf := (if_pos hc14).symm.trans hf
          refine lv_aload_n hx hb dX7_copy_39 rfl (lv_at hl 0 rfl) ?_
          refine lv_ldcw (v := (-1000006 : Int32)) hx hb hown hw2 dX7_copy_40 ?_
          obtain ⟨q47, hq47, hf⟩ := bd_some hf
          refine kr_W (st1 := [.int q47.1]) (va_runV (As := [.int (-1000006 : Int32)]) (rest := []) ⟨hx, hb, hml, hown, hts⟩ (ct_X7_finding l n g m_now m_kept m_aside m_isKept m_found m_steps m_queue m_lives m_treads m_tape m_taped m_begins m_ends m_sort m_value m_isWrong m_items m_itemMany m_seedThen m_groundThen m_widths m_sizes m_numbers m_moved (-1000006 : Int32) q47 hq47) (cwV 1 hts gX7_copy_X7_finding rfl rfl rfl hd_X7_finding ⟨Nat.le_of_ble_eq_true rfl, Nat.le_of_ble_eq_true rfl⟩) ⟨bl_M, va_recv hK hP (ci := 5) (q0 := 0) rfl k_md, pr_M rfl hB hP hS⟩ rfl rfl hl.1 rfl (lv_room (Nat.le_of_ble_eq_true rfl)) dX7_copy_43 ⟨Nat.le_refl _, Nat.le_refl _⟩) hS rfl (fun hn48 H locs hP hS => ?_)
          have hP : va_P g.1 vwCl (mw g (m_now, m_kept, m_aside, m_isKept, q47.2, m_steps, m_queue, m_lives, m_treads, m_tape, m_taped, m_begins, m_ends, m_sort, m_value, m_isWrong, m_items, m_itemMany, m_seedThen, m_groundThen, m_widths, m_sizes, m_numbers, m_moved)) H := hP
          have hres : (q47.1, q47.2, m_numbers, m_moved) = res := (Option.some.inj hf)
          have hP := w_eq (congrArg (fun z => mw g (m_now, m_kept, m_aside, m_isKept, z.2.1, m_steps, m_queue, m_lives, m_treads, m_tape, m_taped, m_begins, m_ends, m_sort, m_value, m_isWrong, m_items, m_itemMany, m_seedThen, m_groundThen, m_widths, m_sizes, z.2.2.1, z.2.2.2)) hres) hP
          exact W.iret (v := q47.1) hx hb hr (fun t ht hW => ⟨congrArg (fun z => Outcome.returned (some (Value.int z.1))) hres, trivial, by rw [ht]; exact hP, hS.F ht⟩) hS.2.2 dX7_copy_46
    · have hf := (if_pos hc8).symm.trans hf
      refine lv_aload_n hx hb dX7_copy_14 rfl (lv_at hl 0 rfl) ?_
      refine lv_ldc (v := (-1000001 : Int32)) hx hb hown hw0 dX7_copy_15 ?_
      obtain ⟨q49, hq49, hf⟩ := bd_some hf
      refine kr_W (st1 := [.int q49.1]) (va_runV (As := [.int (-1000001 : Int32)]) (rest := []) ⟨hx, hb, hml, hown, hts⟩ (ct_X7_finding l n g m_now m_kept m_aside m_isKept m_found m_steps m_queue m_lives m_treads m_tape m_taped m_begins m_ends m_sort m_value m_isWrong m_items m_itemMany m_seedThen m_groundThen m_widths m_sizes m_numbers m_moved (-1000001 : Int32) q49 hq49) (cwV 1 hts gX7_copy_X7_finding rfl rfl rfl hd_X7_finding ⟨Nat.le_of_ble_eq_true rfl, Nat.le_of_ble_eq_true rfl⟩) ⟨bl_M, va_recv hK hP (ci := 5) (q0 := 0) rfl k_md, pr_M rfl hB hP hS⟩ rfl rfl hl.1 rfl (lv_room (Nat.le_of_ble_eq_true rfl)) dX7_copy_17 ⟨Nat.le_refl _, Nat.le_refl _⟩) hS rfl (fun hn50 H locs hP hS => ?_)
      have hP : va_P g.1 vwCl (mw g (m_now, m_kept, m_aside, m_isKept, q49.2, m_steps, m_queue, m_lives, m_treads, m_tape, m_taped, m_begins, m_ends, m_sort, m_value, m_isWrong, m_items, m_itemMany, m_seedThen, m_groundThen, m_widths, m_sizes, m_numbers, m_moved)) H := hP
      have hres : (q49.1, q49.2, m_numbers, m_moved) = res := (Option.some.inj hf)
      have hP := w_eq (congrArg (fun z => mw g (m_now, m_kept, m_aside, m_isKept, z.2.1, m_steps, m_queue, m_lives, m_treads, m_tape, m_taped, m_begins, m_ends, m_sort, m_value, m_isWrong, m_items, m_itemMany, m_seedThen, m_groundThen, m_widths, m_sizes, z.2.2.1, z.2.2.2)) hres) hP
      exact W.iret (v := q49.1) hx hb hr (fun t ht hW => ⟨congrArg (fun z => Outcome.returned (some (Value.int z.1))) hres, trivial, by rw [ht]; exact hP, hS.F ht⟩) hS.2.2 dX7_copy_20
set_option maxHeartbeats 4000000 in
set_option maxRecDepth 100000 in
theorem ct_X7_load (l : Launch) (n : Nat) (g : GM) (m_now : Nat → Int32) (m_kept : Nat → Int32) (m_aside : Nat → Int32) (m_isKept : Int32) (m_found : Nat → Int32) (m_steps : Nat → Int32) (m_queue : Nat → Int32) (m_lives : Nat → Int32) (m_treads : Nat → Int32) (m_tape : Nat → Int32) (m_taped : Int32) (m_begins : Int32) (m_ends : Int32) (m_sort : Int32) (m_value : Int32) (m_isWrong : Int32) (m_items : Nat → Int32) (m_itemMany : Int32) (m_seedThen : Int32) (m_groundThen : Nat → Int32) (m_widths : Nat → Int32) (m_sizes : Nat → Int32) (m_numbers : Nat → Int32) (m_moved : Nat → Int32) (a1 : Int32) (res : Int32 × (Nat → Int32) × (Nat → Int32)) (hf : fX7_load n a1 m_now m_found m_widths m_sizes m_numbers = some res) : Met l yX7_load wsX7_load ({ frames := 3, cells := 0, slots := 0, locals := 63 }) (va_Pc [.ref (gm g 0), .int a1] (mI g (m_now, m_kept, m_aside, m_isKept, m_found, m_steps, m_queue, m_lives, m_treads, m_tape, m_taped, m_begins, m_ends, m_sort, m_value, m_isWrong, m_items, m_itemMany, m_seedThen, m_groundThen, m_widths, m_sizes, m_numbers, m_moved))) (qW (some (.int res.1)) True g.1 (mw g (res.2.1, m_kept, m_aside, m_isKept, res.2.2, m_steps, m_queue, m_lives, m_treads, m_tape, m_taped, m_begins, m_ends, m_sort, m_value, m_isWrong, m_items, m_itemMany, m_seedThen, m_groundThen, m_widths, m_sizes, m_numbers, m_moved)) (mA g)) 0 0 (mA g) := by
  refine Met.ofW (cc := cX7_load) (maxL := 3) (ret := (some .int)) (by decide) rfl ?_
  intro p e s m args below meth c s₁ B hml hv
  obtain ⟨rfl, hI⟩ := hv
  have hx := B.exec
  have hb := B.bytes
  have hr := B.returns
  have hts := atoms_spec (ws := wsX7_load) B.pre
  have hown : s.vm.findClass RX7 = some m.cls := findClass_of_methodNamed B.named
  have hlocks := B.notSynchronized
  have hP := hI.1
  have hB := hI.2
  have hK := hB.1
  have hNW := hB.2.1
  have hS : va_S (mA g) s.heap s.heap [] := va_S.rf
  have hw0 := hts (.fieldLink RX7 86 "SownPathsModel" "sizes" "[I") (by decide +kernel)
  have hw1 := hts (.fieldLink RX7 89 "SownPathsModel" "numbers" "[I") (by decide +kernel)
  have hw2 := hts (.fieldLink RX7 9 "SownPathsModel" "now" "[I") (by decide +kernel)
  have iwX7 : ∀ w ∈ wsX70, w ∈ wsX7_load := fun w h => List.mem_cons_of_mem _ (List.mem_append_right _ h)
  have hl := lv_entry ([.ref (gm g 0), .int a1]) (n := 3) (Nat.le_of_ble_eq_true rfl)
  rw [lg_entry_eq]
  generalize (lg_sl ([.ref (gm g 0), .int a1]) ++ List.replicate (3 - (lg_sl ([.ref (gm g 0), .int a1])).length) Slot.unset).toArray = ls at hl ⊢
  have hl : lv_has ls 3 [(0, .ref (gm g 0)), (1, .int a1)] := hl
  unfold fX7_load at hf
  refine lv_aload_n hx hb dX7_load_0 rfl (lv_at hl 0 rfl) ?_
  refine lv_iload_n hx hb dX7_load_1 rfl (lv_at hl 1 rfl) ?_
  obtain ⟨q1, hq1, hf⟩ := bd_some hf
  refine kr_S (st1 := [.int q1]) (va_runV (As := [.int a1]) (rest := []) ⟨hx, hb, hml, hown, hts⟩ (ct_X7_lacks l n g m_now m_kept m_aside m_isKept m_found m_steps m_queue m_lives m_treads m_tape m_taped m_begins m_ends m_sort m_value m_isWrong m_items m_itemMany m_seedThen m_groundThen m_widths m_sizes m_numbers m_moved a1 q1 hq1) (cwV 1 hts gX7_load_X7_lacks rfl rfl rfl hd_X7_lacks ⟨Nat.le_of_ble_eq_true rfl, Nat.le_of_ble_eq_true rfl⟩) ⟨bl_M, va_recv hK hP (ci := 5) (q0 := 0) rfl k_md, pr_M rfl hB hP hS⟩ rfl rfl hl.1 rfl (lv_room (Nat.le_of_ble_eq_true rfl)) dX7_load_2 ⟨Nat.le_refl _, Nat.le_refl _⟩) rfl (fun hn2 => ?_)
  refine lv_if_eq (tgt := 18) hx hb dX7_load_5 (by decide) (fun hc3 => ?_) (fun hc3 => ?_)
  · have hf := (if_pos hc3).symm.trans hf
    refine lv_iconst (v := (0 : Int32)) hx hb dX7_load_18 (by decide) ?_
    refine lv_istore_n (lv' := [(2, .int (0 : Int32)), (0, .ref (gm g 0)), (1, .int a1)]) hx hb dX7_load_19 rfl hl (by decide) rfl (fun ls hl => ?_)
    refine lp_run hf (fun s4 => ∀ (H : Heap) (locs : List Loc) (ls : Array Slot), va_P g.1 vwCl (mw g (s4.2, m_kept, m_aside, m_isKept, m_found, m_steps, m_queue, m_lives, m_treads, m_tape, m_taped, m_begins, m_ends, m_sort, m_value, m_isWrong, m_items, m_itemMany, m_seedThen, m_groundThen, m_widths, m_sizes, m_numbers, m_moved)) H → va_S (mA g) s.heap H locs → lv_has ls 3 [(0, .ref (gm g 0)), (1, .int a1), (2, .int s4.1)] → W p l e (headSpec wsX7_load ({ frames := 3, cells := 0, slots := 0, locals := 63 })).room s m ([.ref (gm g 0), .int a1] : List Value).toArray below meth c H locs 0 0 (MQ below (qW (some (.int res.1)) True g.1 (mw g (res.2.1, m_kept, m_aside, m_isKept, res.2.2, m_steps, m_queue, m_lives, m_treads, m_tape, m_taped, m_begins, m_ends, m_sort, m_value, m_isWrong, m_items, m_itemMany, m_seedThen, m_groundThen, m_widths, m_sizes, m_numbers, m_moved)) (mA g)) ([.ref (gm g 0), .int a1] : List Value).toArray s 0 0 (mA g)) (F0 m 20 ls [])) (fun v5 => ∀ (H : Heap) (locs : List Loc) (ls : Array Slot), va_P g.1 vwCl (mw g (v5.2, m_kept, m_aside, m_isKept, m_found, m_steps, m_queue, m_lives, m_treads, m_tape, m_taped, m_begins, m_ends, m_sort, m_value, m_isWrong, m_items, m_itemMany, m_seedThen, m_groundThen, m_widths, m_sizes, m_numbers, m_moved)) H → va_S (mA g) s.heap H locs → lv_has ls 3 [(2, .int v5.1)] → W p l e (headSpec wsX7_load ({ frames := 3, cells := 0, slots := 0, locals := 63 })).room s m ([.ref (gm g 0), .int a1] : List Value).toArray below meth c H locs 0 0 (MQ below (qW (some (.int res.1)) True g.1 (mw g (res.2.1, m_kept, m_aside, m_isKept, res.2.2, m_steps, m_queue, m_lives, m_treads, m_tape, m_taped, m_begins, m_ends, m_sort, m_value, m_isWrong, m_items, m_itemMany, m_seedThen, m_groundThen, m_widths, m_sizes, m_numbers, m_moved)) (mA g)) ([.ref (gm g 0), .int a1] : List Value).toArray s 0 0 (mA g)) (F0 m 100 ls [])) ?_ ?_ _ _ _ hP hS (lv_sub hl [1, 2, 0] rfl)
    · intro v5 hf H locs ls hP hS hl
      refine lv_iload_n hx hb dX7_load_100 rfl (lv_at hl 0 rfl) ?_
      have hres : (v5.1, v5.2, m_found) = res := (Option.some.inj hf)
      have hP := w_eq (congrArg (fun z => mw g (z.2.1, m_kept, m_aside, m_isKept, z.2.2, m_steps, m_queue, m_lives, m_treads, m_tape, m_taped, m_begins, m_ends, m_sort, m_value, m_isWrong, m_items, m_itemMany, m_seedThen, m_groundThen, m_widths, m_sizes, m_numbers, m_moved)) hres) hP
      exact W.iret (v := v5.1) hx hb hr (fun t ht hW => ⟨congrArg (fun z => Outcome.returned (some (Value.int z.1))) hres, trivial, by rw [ht]; exact hP, hS.F ht⟩) hS.2.2 dX7_load_101
    · intro s4 r1 hf hback1 hexit1 H locs ls hP hS hl
      refine lv_iload_n hx hb dX7_load_20 rfl (lv_at hl 2 rfl) ?_
      refine lv_aload_n hx hb dX7_load_21 rfl (lv_at hl 0 rfl) ?_
      refine va_get (D := g.1) (ci := 5) (v := .ref (gm g 16)) (C := RX7) (T := TX7) (N := 27) hx hb hts iwX7 hown hK hP 0 k_md rfl 24 (by decide) hw0 (fun _ h9 => h9) rfl dX7_load_22 ?_
      refine lv_iload_n hx hb dX7_load_25 rfl (lv_at hl 1 rfl) ?_
      obtain ⟨hg6, hf⟩ := gd_some hf
      refine va_iald (f := m_sizes) hx hb hK hP 16 0 k_sizes rfl hg6 dX7_load_26 ?_
      refine lv_icmp_ge (tgt := 100) hx hb dX7_load_27 (by decide) (fun hc7 => ?_) (fun hc7 => ?_)
      · have hf := (if_pos hc7).symm.trans hf
        exact hexit1 (s4.1, s4.2) (Option.some.inj hf).symm H locs ls hP hS (lv_sub hl [2] rfl)
      · have hf := (if_neg hc7).symm.trans hf
        refine lv_iload_n hx hb dX7_load_30 rfl (lv_at hl 2 rfl) ?_
        obtain ⟨q8, hq8, hf⟩ := bd_some hf
        refine kr_S (st1 := [.int q8]) (va_runS (As := [.int s4.1]) (rest := []) ⟨hx, hb, hml, hown, hts⟩ (ct_X7_isCell l n s4.1 q8 hq8) (va_cwS 1 hts gX7_load_X7_isCell rfl rfl rfl hn_X7_isCell ⟨Nat.le_of_ble_eq_true rfl, Nat.le_of_ble_eq_true rfl⟩) ⟨bl_N, pr_N rfl hNW⟩ rfl rfl hl.1 rfl (lv_room (Nat.le_of_ble_eq_true rfl)) dX7_load_31 ⟨Nat.le_refl _, Nat.le_refl _⟩) rfl (fun hn9 => ?_)
        refine lv_if_eq (tgt := 100) hx hb dX7_load_34 (by decide) (fun hc10 => ?_) (fun hc10 => ?_)
        · have hf := (if_pos hc10).symm.trans hf
          exact hexit1 (s4.1, s4.2) (Option.some.inj hf).symm H locs ls hP hS (lv_sub hl [2] rfl)
        · have hf := (if_neg hc10).symm.trans hf
          refine lv_aload_n hx hb dX7_load_37 rfl (lv_at hl 0 rfl) ?_
          refine va_get (D := g.1) (ci := 5) (v := .ref (gm g 17)) (C := RX7) (T := TX7) (N := 27) hx hb hts iwX7 hown hK hP 0 k_md rfl 25 (by decide) hw1 (fun _ h9 => h9) rfl dX7_load_38 ?_
          refine lv_bipush (v := (40 : Int32)) hx hb dX7_load_41 (by decide) ?_
          refine lv_iload_n hx hb dX7_load_43 rfl (lv_at hl 1 rfl) ?_
          refine lv_imul hx hb dX7_load_44 ?_
          refine lv_iload_n hx hb dX7_load_45 rfl (lv_at hl 2 rfl) ?_
          refine lv_iadd hx hb dX7_load_46 ?_
          obtain ⟨hg11, hf⟩ := gd_some hf
          refine va_iald (f := m_numbers) hx hb hK hP 17 0 k_numbers rfl hg11 dX7_load_47 ?_
          obtain ⟨q12, hq12, hf⟩ := bd_some hf
          refine kr_S (st1 := [.int q12]) (va_runS (As := [.int (m_numbers (((40 : Int32) * a1) + s4.1).toNatClampNeg)]) (rest := []) ⟨hx, hb, hml, hown, hts⟩ (ct_X7_isPath l n (m_numbers (((40 : Int32) * a1) + s4.1).toNatClampNeg) q12 hq12) (va_cwS 1 hts gX7_load_X7_isPath rfl rfl rfl hn_X7_isPath ⟨Nat.le_of_ble_eq_true rfl, Nat.le_of_ble_eq_true rfl⟩) ⟨bl_N, pr_N rfl hNW⟩ rfl rfl hl.1 rfl (lv_room (Nat.le_of_ble_eq_true rfl)) dX7_load_48 ⟨Nat.le_refl _, Nat.le_refl _⟩) rfl (fun hn13 => ?_)
          refine lv_if_eq (tgt := 100) hx hb dX7_load_51 (by decide) (fun hc14 => ?_) (fun hc14 => ?_)
          · have hf := (if_pos hc14).symm.trans hf
            exact hexit1 (s4.1, s4.2) (Option.some.inj hf).symm H locs ls hP hS (lv_sub hl [2] rfl)
          · have hf := (if_neg hc14).symm.trans hf
            refine lv_aload_n hx hb dX7_load_54 rfl (lv_at hl 0 rfl) ?_
            refine va_get (D := g.1) (ci := 5) (v := .ref (gm g 1)) (C := RX7) (T := TX7) (N := 27) hx hb hts iwX7 hown hK hP 0 k_md rfl 0 (by decide) hw2 (fun _ h9 => h9) rfl dX7_load_55 ?_
            refine lv_bipush (v := (49 : Int32)) hx hb dX7_load_58 (by decide) ?_
            refine lv_iload_n hx hb dX7_load_60 rfl (lv_at hl 2 rfl) ?_
            refine lv_iadd hx hb dX7_load_61 ?_
            refine lv_aload_n hx hb dX7_load_62 rfl (lv_at hl 0 rfl) ?_
            refine lv_iload_n hx hb dX7_load_63 rfl (lv_at hl 2 rfl) ?_
            obtain ⟨q15, hq15, hf⟩ := bd_some hf
            refine kr_S (st1 := [.int q15, .int ((49 : Int32) + s4.1), .ref (gm g 1)]) (va_runV (As := [.int s4.1]) (rest := [.int ((49 : Int32) + s4.1), .ref (gm g 1)]) ⟨hx, hb, hml, hown, hts⟩ (ct_X7_isGrass l n g s4.2 m_kept m_aside m_isKept m_found m_steps m_queue m_lives m_treads m_tape m_taped m_begins m_ends m_sort m_value m_isWrong m_items m_itemMany m_seedThen m_groundThen m_widths m_sizes m_numbers m_moved s4.1 q15 hq15) (cwV 1 hts gX7_load_X7_isGrass rfl rfl rfl hd_X7_isGrass ⟨Nat.le_of_ble_eq_true rfl, Nat.le_of_ble_eq_true rfl⟩) ⟨bl_M, va_recv hK hP (ci := 5) (q0 := 0) rfl k_md, pr_M rfl hB hP hS⟩ rfl rfl hl.1 rfl (lv_room (Nat.le_of_ble_eq_true rfl)) dX7_load_64 ⟨Nat.le_refl _, Nat.le_refl _⟩) rfl (fun hn16 => ?_)
            refine lv_if_eq (tgt := 84) hx hb dX7_load_67 (by decide) (fun hc17 => ?_) (fun hc17 => ?_)
            · have hf := (if_pos hc17).symm.trans hf
              refine lv_aload_n hx hb dX7_load_84 rfl (lv_at hl 0 rfl) ?_
              refine va_get (D := g.1) (ci := 5) (v := .ref (gm g 1)) (C := RX7) (T := TX7) (N := 27) hx hb hts iwX7 hown hK hP 0 k_md rfl 0 (by decide) hw2 (fun _ h9 => h9) rfl dX7_load_85 ?_
              refine lv_bipush (v := (49 : Int32)) hx hb dX7_load_88 (by decide) ?_
              refine lv_iload_n hx hb dX7_load_90 rfl (lv_at hl 2 rfl) ?_
              refine lv_iadd hx hb dX7_load_91 ?_
              obtain ⟨hg18, hf⟩ := gd_some hf
              refine va_iald (f := s4.2) hx hb hK hP 1 0 k_now rfl hg18 dX7_load_92 ?_
              obtain ⟨hg19, hf⟩ := gd_some hf
              refine va_iast (f := s4.2) hx hb hK hP (mD hB.2.2.1 _) hS 1 0 k_now rfl hg19 dX7_load_93 (fun H locs hP _ hS => ?_)
              have hP : va_P g.1 vwCl (mw g ((upd s4.2 ((49 : Int32) + s4.1).toNatClampNeg (s4.2 ((49 : Int32) + s4.1).toNatClampNeg)), m_kept, m_aside, m_isKept, m_found, m_steps, m_queue, m_lives, m_treads, m_tape, m_taped, m_begins, m_ends, m_sort, m_value, m_isWrong, m_items, m_itemMany, m_seedThen, m_groundThen, m_widths, m_sizes, m_numbers, m_moved)) H := w_eq (k_set_now (upd s4.2 ((49 : Int32) + s4.1).toNatClampNeg (s4.2 ((49 : Int32) + s4.1).toNatClampNeg))) hP
              refine lv_iinc (v := (s4.1 + (1 : Int32))) (lv' := [(2, .int (s4.1 + (1 : Int32))), (0, .ref (gm g 0)), (1, .int a1)]) hx hb dX7_load_94 hl (k := 2) rfl (congrArg (fun y => s4.1 + y) (by decide : Int32.ofInt (1) = (1 : Int32))) (by decide) rfl (fun ls hl => ?_)
              refine lv_goto (tgt := 20) hx hb dX7_load_97 (by decide) ?_
              exact hback1 _ (Option.some.inj hf).symm H locs ls hP hS (lv_sub hl [1, 2, 0] rfl)
            · have hf := (if_neg hc17).symm.trans hf
              refine lv_aload_n hx hb dX7_load_70 rfl (lv_at hl 0 rfl) ?_
              refine va_get (D := g.1) (ci := 5) (v := .ref (gm g 17)) (C := RX7) (T := TX7) (N := 27) hx hb hts iwX7 hown hK hP 0 k_md rfl 25 (by decide) hw1 (fun _ h9 => h9) rfl dX7_load_71 ?_
              refine lv_bipush (v := (40 : Int32)) hx hb dX7_load_74 (by decide) ?_
              refine lv_iload_n hx hb dX7_load_76 rfl (lv_at hl 1 rfl) ?_
              refine lv_imul hx hb dX7_load_77 ?_
              refine lv_iload_n hx hb dX7_load_78 rfl (lv_at hl 2 rfl) ?_
              refine lv_iadd hx hb dX7_load_79 ?_
              obtain ⟨hg20, hf⟩ := gd_some hf
              refine va_iald (f := m_numbers) hx hb hK hP 17 0 k_numbers rfl hg20 dX7_load_80 ?_
              refine lv_goto (tgt := 93) hx hb dX7_load_81 (by decide) ?_
              obtain ⟨hg21, hf⟩ := gd_some hf
              refine va_iast (f := s4.2) hx hb hK hP (mD hB.2.2.1 _) hS 1 0 k_now rfl hg21 dX7_load_93 (fun H locs hP _ hS => ?_)
              have hP : va_P g.1 vwCl (mw g ((upd s4.2 ((49 : Int32) + s4.1).toNatClampNeg (m_numbers (((40 : Int32) * a1) + s4.1).toNatClampNeg)), m_kept, m_aside, m_isKept, m_found, m_steps, m_queue, m_lives, m_treads, m_tape, m_taped, m_begins, m_ends, m_sort, m_value, m_isWrong, m_items, m_itemMany, m_seedThen, m_groundThen, m_widths, m_sizes, m_numbers, m_moved)) H := w_eq (k_set_now (upd s4.2 ((49 : Int32) + s4.1).toNatClampNeg (m_numbers (((40 : Int32) * a1) + s4.1).toNatClampNeg))) hP
              refine lv_iinc (v := (s4.1 + (1 : Int32))) (lv' := [(2, .int (s4.1 + (1 : Int32))), (0, .ref (gm g 0)), (1, .int a1)]) hx hb dX7_load_94 hl (k := 2) rfl (congrArg (fun y => s4.1 + y) (by decide : Int32.ofInt (1) = (1 : Int32))) (by decide) rfl (fun ls hl => ?_)
              refine lv_goto (tgt := 20) hx hb dX7_load_97 (by decide) ?_
              exact hback1 _ (Option.some.inj hf).symm H locs ls hP hS (lv_sub hl [1, 2, 0] rfl)
  · have hf := (if_neg hc3).symm.trans hf
    refine lv_aload_n hx hb dX7_load_8 rfl (lv_at hl 0 rfl) ?_
    refine lv_aload_n hx hb dX7_load_9 rfl (lv_at hl 0 rfl) ?_
    refine lv_iload_n hx hb dX7_load_10 rfl (lv_at hl 1 rfl) ?_
    obtain ⟨q22, hq22, hf⟩ := bd_some hf
    refine kr_S (st1 := [.int q22, .ref (gm g 0)]) (va_runV (As := [.int a1]) (rest := [.ref (gm g 0)]) ⟨hx, hb, hml, hown, hts⟩ (ct_X7_lacks l n g m_now m_kept m_aside m_isKept m_found m_steps m_queue m_lives m_treads m_tape m_taped m_begins m_ends m_sort m_value m_isWrong m_items m_itemMany m_seedThen m_groundThen m_widths m_sizes m_numbers m_moved a1 q22 hq22) (cwV 1 hts gX7_load_X7_lacks rfl rfl rfl hd_X7_lacks ⟨Nat.le_of_ble_eq_true rfl, Nat.le_of_ble_eq_true rfl⟩) ⟨bl_M, va_recv hK hP (ci := 5) (q0 := 0) rfl k_md, pr_M rfl hB hP hS⟩ rfl rfl hl.1 rfl (lv_room (Nat.le_of_ble_eq_true rfl)) dX7_load_11 ⟨Nat.le_refl _, Nat.le_refl _⟩) rfl (fun hn23 => ?_)
    obtain ⟨q24, hq24, hf⟩ := bd_some hf
    refine kr_W (st1 := [.int q24.1]) (va_runV (As := [.int q22]) (rest := []) ⟨hx, hb, hml, hown, hts⟩ (ct_X7_finding l n g m_now m_kept m_aside m_isKept m_found m_steps m_queue m_lives m_treads m_tape m_taped m_begins m_ends m_sort m_value m_isWrong m_items m_itemMany m_seedThen m_groundThen m_widths m_sizes m_numbers m_moved q22 q24 hq24) (cwV 1 hts gX7_load_X7_finding rfl rfl rfl hd_X7_finding ⟨Nat.le_of_ble_eq_true rfl, Nat.le_of_ble_eq_true rfl⟩) ⟨bl_M, va_recv hK hP (ci := 5) (q0 := 0) rfl k_md, pr_M rfl hB hP hS⟩ rfl rfl hl.1 rfl (lv_room (Nat.le_of_ble_eq_true rfl)) dX7_load_14 ⟨Nat.le_refl _, Nat.le_refl _⟩) hS rfl (fun hn25 H locs hP hS => ?_)
    have hP : va_P g.1 vwCl (mw g (m_now, m_kept, m_aside, m_isKept, q24.2, m_steps, m_queue, m_lives, m_treads, m_tape, m_taped, m_begins, m_ends, m_sort, m_value, m_isWrong, m_items, m_itemMany, m_seedThen, m_groundThen, m_widths, m_sizes, m_numbers, m_moved)) H := hP
    have hres : (q24.1, m_now, q24.2) = res := (Option.some.inj hf)
    have hP := w_eq (congrArg (fun z => mw g (z.2.1, m_kept, m_aside, m_isKept, z.2.2, m_steps, m_queue, m_lives, m_treads, m_tape, m_taped, m_begins, m_ends, m_sort, m_value, m_isWrong, m_items, m_itemMany, m_seedThen, m_groundThen, m_widths, m_sizes, m_numbers, m_moved)) hres) hP
    exact W.iret (v := q24.1) hx hb hr (fun t ht hW => ⟨congrArg (fun z => Outcome.returned (some (Value.int z.1))) hres, trivial, by rw [ht]; exact hP, hS.F ht⟩) hS.2.2 dX7_load_17
set_option maxHeartbeats 4000000 in
set_option maxRecDepth 100000 in
theorem ct_X7_judge (l : Launch) (n : Nat) (g : GM) (m_now : Nat → Int32) (m_kept : Nat → Int32) (m_aside : Nat → Int32) (m_isKept : Int32) (m_found : Nat → Int32) (m_steps : Nat → Int32) (m_queue : Nat → Int32) (m_lives : Nat → Int32) (m_treads : Nat → Int32) (m_tape : Nat → Int32) (m_taped : Int32) (m_begins : Int32) (m_ends : Int32) (m_sort : Int32) (m_value : Int32) (m_isWrong : Int32) (m_items : Nat → Int32) (m_itemMany : Int32) (m_seedThen : Int32) (m_groundThen : Nat → Int32) (m_widths : Nat → Int32) (m_sizes : Nat → Int32) (m_numbers : Nat → Int32) (m_moved : Nat → Int32) (a1 : Int32) (res : Int32 × (Nat → Int32)) (hf : fX7_judge n a1 m_now m_found m_widths m_sizes m_numbers = some res) : Met l yX7_judge wsX7_judge ({ frames := 3, cells := 0, slots := 0, locals := 63 }) (va_Pc [.ref (gm g 0), .int a1] (mI g (m_now, m_kept, m_aside, m_isKept, m_found, m_steps, m_queue, m_lives, m_treads, m_tape, m_taped, m_begins, m_ends, m_sort, m_value, m_isWrong, m_items, m_itemMany, m_seedThen, m_groundThen, m_widths, m_sizes, m_numbers, m_moved))) (qW (some (.int res.1)) True g.1 (mw g (m_now, m_kept, m_aside, m_isKept, res.2, m_steps, m_queue, m_lives, m_treads, m_tape, m_taped, m_begins, m_ends, m_sort, m_value, m_isWrong, m_items, m_itemMany, m_seedThen, m_groundThen, m_widths, m_sizes, m_numbers, m_moved)) (mA g)) 0 0 (mA g) := by
  refine Met.ofW (cc := cX7_judge) (maxL := 5) (ret := (some .int)) (by decide) rfl ?_
  intro p e s m args below meth c s₁ B hml hv
  obtain ⟨rfl, hI⟩ := hv
  have hx := B.exec
  have hb := B.bytes
  have hr := B.returns
  have hts := atoms_spec (ws := wsX7_judge) B.pre
  have hown : s.vm.findClass RX7 = some m.cls := findClass_of_methodNamed B.named
  have hlocks := B.notSynchronized
  have hP := hI.1
  have hB := hI.2
  have hK := hB.1
  have hNW := hB.2.1
  have hS : va_S (mA g) s.heap s.heap [] := va_S.rf
  have hw0 := hts (.fieldLink RX7 86 "SownPathsModel" "sizes" "[I") (by decide +kernel)
  have hw1 := hts (.fieldLink RX7 89 "SownPathsModel" "numbers" "[I") (by decide +kernel)
  have iwX7 : ∀ w ∈ wsX70, w ∈ wsX7_judge := fun w h => List.mem_cons_of_mem _ (List.mem_append_right _ h)
  have hl := lv_entry ([.ref (gm g 0), .int a1]) (n := 5) (Nat.le_of_ble_eq_true rfl)
  rw [lg_entry_eq]
  generalize (lg_sl ([.ref (gm g 0), .int a1]) ++ List.replicate (5 - (lg_sl ([.ref (gm g 0), .int a1])).length) Slot.unset).toArray = ls at hl ⊢
  have hl : lv_has ls 5 [(0, .ref (gm g 0)), (1, .int a1)] := hl
  unfold fX7_judge at hf
  refine lv_aload_n hx hb dX7_judge_0 rfl (lv_at hl 0 rfl) ?_
  refine lv_iload_n hx hb dX7_judge_1 rfl (lv_at hl 1 rfl) ?_
  obtain ⟨q1, hq1, hf⟩ := bd_some hf
  refine kr_S (st1 := [.int q1]) (va_runV (As := [.int a1]) (rest := []) ⟨hx, hb, hml, hown, hts⟩ (ct_X7_lacks l n g m_now m_kept m_aside m_isKept m_found m_steps m_queue m_lives m_treads m_tape m_taped m_begins m_ends m_sort m_value m_isWrong m_items m_itemMany m_seedThen m_groundThen m_widths m_sizes m_numbers m_moved a1 q1 hq1) (cwV 1 hts gX7_judge_X7_lacks rfl rfl rfl hd_X7_lacks ⟨Nat.le_of_ble_eq_true rfl, Nat.le_of_ble_eq_true rfl⟩) ⟨bl_M, va_recv hK hP (ci := 5) (q0 := 0) rfl k_md, pr_M rfl hB hP hS⟩ rfl rfl hl.1 rfl (lv_room (Nat.le_of_ble_eq_true rfl)) dX7_judge_2 ⟨Nat.le_refl _, Nat.le_refl _⟩) rfl (fun hn2 => ?_)
  refine lv_if_eq (tgt := 18) hx hb dX7_judge_5 (by decide) (fun hc3 => ?_) (fun hc3 => ?_)
  · have hf := (if_pos hc3).symm.trans hf
    refine lv_iconst (v := (0 : Int32)) hx hb dX7_judge_18 (by decide) ?_
    refine lv_istore_n (lv' := [(2, .int (0 : Int32)), (0, .ref (gm g 0)), (1, .int a1)]) hx hb dX7_judge_19 rfl hl (by decide) rfl (fun ls hl => ?_)
    refine lv_iconst (v := (1 : Int32)) hx hb dX7_judge_20 (by decide) ?_
    refine lv_istore_n (lv' := [(3, .int (1 : Int32)), (2, .int (0 : Int32)), (0, .ref (gm g 0)), (1, .int a1)]) hx hb dX7_judge_21 rfl hl (by decide) rfl (fun ls hl => ?_)
    refine lp_run hf (fun s4 => ∀ (H : Heap) (locs : List Loc) (ls : Array Slot), va_P g.1 vwCl (mw g (m_now, m_kept, m_aside, m_isKept, m_found, m_steps, m_queue, m_lives, m_treads, m_tape, m_taped, m_begins, m_ends, m_sort, m_value, m_isWrong, m_items, m_itemMany, m_seedThen, m_groundThen, m_widths, m_sizes, m_numbers, m_moved)) H → va_S (mA g) s.heap H locs → lv_has ls 5 [(0, .ref (gm g 0)), (1, .int a1), (2, .int s4.1), (3, .int s4.2)] → W p l e (headSpec wsX7_judge ({ frames := 3, cells := 0, slots := 0, locals := 63 })).room s m ([.ref (gm g 0), .int a1] : List Value).toArray below meth c H locs 0 0 (MQ below (qW (some (.int res.1)) True g.1 (mw g (m_now, m_kept, m_aside, m_isKept, res.2, m_steps, m_queue, m_lives, m_treads, m_tape, m_taped, m_begins, m_ends, m_sort, m_value, m_isWrong, m_items, m_itemMany, m_seedThen, m_groundThen, m_widths, m_sizes, m_numbers, m_moved)) (mA g)) ([.ref (gm g 0), .int a1] : List Value).toArray s 0 0 (mA g)) (F0 m 22 ls [])) (fun v5 => ∀ (H : Heap) (locs : List Loc) (ls : Array Slot), va_P g.1 vwCl (mw g (m_now, m_kept, m_aside, m_isKept, m_found, m_steps, m_queue, m_lives, m_treads, m_tape, m_taped, m_begins, m_ends, m_sort, m_value, m_isWrong, m_items, m_itemMany, m_seedThen, m_groundThen, m_widths, m_sizes, m_numbers, m_moved)) H → va_S (mA g) s.heap H locs → lv_has ls 5 [(2, .int v5.1), (3, .int v5.2)] → W p l e (headSpec wsX7_judge ({ frames := 3, cells := 0, slots := 0, locals := 63 })).room s m ([.ref (gm g 0), .int a1] : List Value).toArray below meth c H locs 0 0 (MQ below (qW (some (.int res.1)) True g.1 (mw g (m_now, m_kept, m_aside, m_isKept, res.2, m_steps, m_queue, m_lives, m_treads, m_tape, m_taped, m_begins, m_ends, m_sort, m_value, m_isWrong, m_items, m_itemMany, m_seedThen, m_groundThen, m_widths, m_sizes, m_numbers, m_moved)) (mA g)) ([.ref (gm g 0), .int a1] : List Value).toArray s 0 0 (mA g)) (F0 m 113 ls [])) ?_ ?_ _ _ _ hP hS (lv_sub hl [2, 3, 1, 0] rfl)
    · intro v5 hf H locs ls hP hS hl
      refine lv_iload_n hx hb dX7_judge_113 rfl (lv_at hl 1 rfl) ?_
      refine lv_if_eq (tgt := 121) hx hb dX7_judge_114 (by decide) (fun hc21 => ?_) (fun hc21 => ?_)
      · have hf := (if_pos hc21).symm.trans hf
        refine lv_iconst (v := (1 : Int32)) hx hb dX7_judge_121 (by decide) ?_
        refine lv_iload_n hx hb dX7_judge_122 rfl (lv_at hl 0 rfl) ?_
        refine lv_iadd hx hb dX7_judge_123 ?_
        have hres : (((1 : Int32) + v5.1), m_found) = res := (Option.some.inj hf)
        have hP := w_eq (congrArg (fun z => mw g (m_now, m_kept, m_aside, m_isKept, z.2, m_steps, m_queue, m_lives, m_treads, m_tape, m_taped, m_begins, m_ends, m_sort, m_value, m_isWrong, m_items, m_itemMany, m_seedThen, m_groundThen, m_widths, m_sizes, m_numbers, m_moved)) hres) hP
        exact W.iret (v := ((1 : Int32) + v5.1)) hx hb hr (fun t ht hW => ⟨congrArg (fun z => Outcome.returned (some (Value.int z.1))) hres, trivial, by rw [ht]; exact hP, hS.F ht⟩) hS.2.2 dX7_judge_124
      · have hf := (if_neg hc21).symm.trans hf
        refine lv_iconst (v := (0 : Int32)) hx hb dX7_judge_117 (by decide) ?_
        refine lv_goto (tgt := 124) hx hb dX7_judge_118 (by decide) ?_
        have hres : ((0 : Int32), m_found) = res := (Option.some.inj hf)
        have hP := w_eq (congrArg (fun z => mw g (m_now, m_kept, m_aside, m_isKept, z.2, m_steps, m_queue, m_lives, m_treads, m_tape, m_taped, m_begins, m_ends, m_sort, m_value, m_isWrong, m_items, m_itemMany, m_seedThen, m_groundThen, m_widths, m_sizes, m_numbers, m_moved)) hres) hP
        exact W.iret (v := (0 : Int32)) hx hb hr (fun t ht hW => ⟨congrArg (fun z => Outcome.returned (some (Value.int z.1))) hres, trivial, by rw [ht]; exact hP, hS.F ht⟩) hS.2.2 dX7_judge_124
    · intro s4 r1 hf hback1 hexit1 H locs ls hP hS hl
      refine lv_iload_n hx hb dX7_judge_22 rfl (lv_at hl 2 rfl) ?_
      refine lv_aload_n hx hb dX7_judge_23 rfl (lv_at hl 0 rfl) ?_
      refine va_get (D := g.1) (ci := 5) (v := .ref (gm g 16)) (C := RX7) (T := TX7) (N := 27) hx hb hts iwX7 hown hK hP 0 k_md rfl 24 (by decide) hw0 (fun _ h9 => h9) rfl dX7_judge_24 ?_
      refine lv_iload_n hx hb dX7_judge_27 rfl (lv_at hl 1 rfl) ?_
      obtain ⟨hg6, hf⟩ := gd_some hf
      refine va_iald (f := m_sizes) hx hb hK hP 16 0 k_sizes rfl hg6 dX7_judge_28 ?_
      refine lv_icmp_ge (tgt := 113) hx hb dX7_judge_29 (by decide) (fun hc7 => ?_) (fun hc7 => ?_)
      · have hf := (if_pos hc7).symm.trans hf
        exact hexit1 (s4.1, s4.2) (Option.some.inj hf).symm H locs ls hP hS (lv_sub hl [2, 3] rfl)
      · have hf := (if_neg hc7).symm.trans hf
        refine lv_iload_n hx hb dX7_judge_32 rfl (lv_at hl 3 rfl) ?_
        refine lv_if_eq (tgt := 113) hx hb dX7_judge_33 (by decide) (fun hc8 => ?_) (fun hc8 => ?_)
        · have hf := (if_pos hc8).symm.trans hf
          exact hexit1 (s4.1, s4.2) (Option.some.inj hf).symm H locs ls hP hS (lv_sub hl [2, 3] rfl)
        · have hf := (if_neg hc8).symm.trans hf
          refine lv_aload_n hx hb dX7_judge_36 rfl (lv_at hl 0 rfl) ?_
          refine va_get (D := g.1) (ci := 5) (v := .ref (gm g 17)) (C := RX7) (T := TX7) (N := 27) hx hb hts iwX7 hown hK hP 0 k_md rfl 25 (by decide) hw1 (fun _ h9 => h9) rfl dX7_judge_37 ?_
          refine lv_bipush (v := (40 : Int32)) hx hb dX7_judge_40 (by decide) ?_
          refine lv_iload_n hx hb dX7_judge_42 rfl (lv_at hl 1 rfl) ?_
          refine lv_imul hx hb dX7_judge_43 ?_
          refine lv_iload_n hx hb dX7_judge_44 rfl (lv_at hl 2 rfl) ?_
          refine lv_iadd hx hb dX7_judge_45 ?_
          obtain ⟨hg9, hf⟩ := gd_some hf
          refine va_iald (f := m_numbers) hx hb hK hP 17 0 k_numbers rfl hg9 dX7_judge_46 ?_
          refine lv_istore (lv' := [(4, .int (m_numbers (((40 : Int32) * a1) + s4.1).toNatClampNeg)), (0, .ref (gm g 0)), (1, .int a1), (2, .int s4.1), (3, .int s4.2)]) hx hb dX7_judge_47 hl (by decide) rfl (fun ls hl => ?_)
          refine lv_iload hx hb dX7_judge_49 (lv_at hl 0 rfl) ?_
          obtain ⟨q10, hq10, hf⟩ := bd_some hf
          refine kr_S (st1 := [.int q10]) (va_runS (As := [.int (m_numbers (((40 : Int32) * a1) + s4.1).toNatClampNeg)]) (rest := []) ⟨hx, hb, hml, hown, hts⟩ (ct_X7_isCell l n (m_numbers (((40 : Int32) * a1) + s4.1).toNatClampNeg) q10 hq10) (va_cwS 1 hts gX7_judge_X7_isCell rfl rfl rfl hn_X7_isCell ⟨Nat.le_of_ble_eq_true rfl, Nat.le_of_ble_eq_true rfl⟩) ⟨bl_N, pr_N rfl hNW⟩ rfl rfl hl.1 rfl (lv_room (Nat.le_of_ble_eq_true rfl)) dX7_judge_51 ⟨Nat.le_refl _, Nat.le_refl _⟩) rfl (fun hn11 => ?_)
          refine lv_if_eq (tgt := 96) hx hb dX7_judge_54 (by decide) (fun hc12 => ?_) (fun hc12 => ?_)
          · have hf := (if_pos hc12).symm.trans hf
            refine lv_iconst (v := (0 : Int32)) hx hb dX7_judge_96 (by decide) ?_
            refine lv_istore_n (lv' := [(3, .int (0 : Int32)), (4, .int (m_numbers (((40 : Int32) * a1) + s4.1).toNatClampNeg)), (0, .ref (gm g 0)), (1, .int a1), (2, .int s4.1)]) hx hb dX7_judge_97 rfl hl (by decide) rfl (fun ls hl => ?_)
            refine lv_iload_n hx hb dX7_judge_98 rfl (lv_at hl 4 rfl) ?_
            refine lv_iload_n hx hb dX7_judge_99 rfl (lv_at hl 0 rfl) ?_
            refine lv_if_eq (tgt := 107) hx hb dX7_judge_100 (by decide) (fun _ => ?_) (fun hc => absurd hc (by decide))
            refine lv_iconst (v := (0 : Int32)) hx hb dX7_judge_107 (by decide) ?_
            refine lv_iadd hx hb dX7_judge_108 ?_
            refine lv_istore_n (lv' := [(2, .int (s4.1 + (0 : Int32))), (3, .int (0 : Int32)), (4, .int (m_numbers (((40 : Int32) * a1) + s4.1).toNatClampNeg)), (0, .ref (gm g 0)), (1, .int a1)]) hx hb dX7_judge_109 rfl hl (by decide) rfl (fun ls hl => ?_)
            refine lv_goto (tgt := 22) hx hb dX7_judge_110 (by decide) ?_
            exact hback1 _ (Option.some.inj hf).symm H locs ls hP hS (lv_sub hl [3, 4, 0, 1] rfl)
          · have hf := (if_neg hc12).symm.trans hf
            refine lv_aload_n hx hb dX7_judge_57 rfl (lv_at hl 1 rfl) ?_
            refine lv_iload hx hb dX7_judge_58 (lv_at hl 0 rfl) ?_
            obtain ⟨q13, hq13, hf⟩ := bd_some hf
            refine kr_S (st1 := [.int q13]) (va_runV (As := [.int (m_numbers (((40 : Int32) * a1) + s4.1).toNatClampNeg)]) (rest := []) ⟨hx, hb, hml, hown, hts⟩ (ct_X7_hasPath l n g m_now m_kept m_aside m_isKept m_found m_steps m_queue m_lives m_treads m_tape m_taped m_begins m_ends m_sort m_value m_isWrong m_items m_itemMany m_seedThen m_groundThen m_widths m_sizes m_numbers m_moved (m_numbers (((40 : Int32) * a1) + s4.1).toNatClampNeg) q13 hq13) (cwV 1 hts gX7_judge_X7_hasPath rfl rfl rfl hd_X7_hasPath ⟨Nat.le_of_ble_eq_true rfl, Nat.le_of_ble_eq_true rfl⟩) ⟨bl_M, va_recv hK hP (ci := 5) (q0 := 0) rfl k_md, pr_M rfl hB hP hS⟩ rfl rfl hl.1 rfl (lv_room (Nat.le_of_ble_eq_true rfl)) dX7_judge_60 ⟨Nat.le_refl _, Nat.le_refl _⟩) rfl (fun hn14 => ?_)
            refine lv_if_eq (tgt := 96) hx hb dX7_judge_63 (by decide) (fun hc15 => ?_) (fun hc15 => ?_)
            · have hf := (if_pos hc15).symm.trans hf
              refine lv_iconst (v := (0 : Int32)) hx hb dX7_judge_96 (by decide) ?_
              refine lv_istore_n (lv' := [(3, .int (0 : Int32)), (4, .int (m_numbers (((40 : Int32) * a1) + s4.1).toNatClampNeg)), (0, .ref (gm g 0)), (1, .int a1), (2, .int s4.1)]) hx hb dX7_judge_97 rfl hl (by decide) rfl (fun ls hl => ?_)
              refine lv_iload_n hx hb dX7_judge_98 rfl (lv_at hl 4 rfl) ?_
              refine lv_iload_n hx hb dX7_judge_99 rfl (lv_at hl 0 rfl) ?_
              refine lv_if_eq (tgt := 107) hx hb dX7_judge_100 (by decide) (fun _ => ?_) (fun hc => absurd hc (by decide))
              refine lv_iconst (v := (0 : Int32)) hx hb dX7_judge_107 (by decide) ?_
              refine lv_iadd hx hb dX7_judge_108 ?_
              refine lv_istore_n (lv' := [(2, .int (s4.1 + (0 : Int32))), (3, .int (0 : Int32)), (4, .int (m_numbers (((40 : Int32) * a1) + s4.1).toNatClampNeg)), (0, .ref (gm g 0)), (1, .int a1)]) hx hb dX7_judge_109 rfl hl (by decide) rfl (fun ls hl => ?_)
              refine lv_goto (tgt := 22) hx hb dX7_judge_110 (by decide) ?_
              exact hback1 _ (Option.some.inj hf).symm H locs ls hP hS (lv_sub hl [3, 4, 0, 1] rfl)
            · have hf := (if_neg hc15).symm.trans hf
              refine lv_iload_n hx hb dX7_judge_66 rfl (lv_at hl 3 rfl) ?_
              refine lv_if_eq (tgt := 92) hx hb dX7_judge_67 (by decide) (fun hc16 => ?_) (fun hc16 => ?_)
              · have hf := (if_pos hc16).symm.trans hf
                refine lv_iconst (v := (1 : Int32)) hx hb dX7_judge_92 (by decide) ?_
                refine lv_goto (tgt := 97) hx hb dX7_judge_93 (by decide) ?_
                refine lv_istore_n (lv' := [(3, .int (1 : Int32)), (4, .int (m_numbers (((40 : Int32) * a1) + s4.1).toNatClampNeg)), (0, .ref (gm g 0)), (1, .int a1), (2, .int s4.1)]) hx hb dX7_judge_97 rfl hl (by decide) rfl (fun ls hl => ?_)
                refine lv_iload_n hx hb dX7_judge_98 rfl (lv_at hl 4 rfl) ?_
                refine lv_iload_n hx hb dX7_judge_99 rfl (lv_at hl 0 rfl) ?_
                refine lv_if_eq (tgt := 107) hx hb dX7_judge_100 (by decide) (fun hc => absurd hc (by decide)) (fun _ => ?_)
                refine lv_iconst (v := (1 : Int32)) hx hb dX7_judge_103 (by decide) ?_
                refine lv_goto (tgt := 108) hx hb dX7_judge_104 (by decide) ?_
                refine lv_iadd hx hb dX7_judge_108 ?_
                refine lv_istore_n (lv' := [(2, .int (s4.1 + (1 : Int32))), (3, .int (1 : Int32)), (4, .int (m_numbers (((40 : Int32) * a1) + s4.1).toNatClampNeg)), (0, .ref (gm g 0)), (1, .int a1)]) hx hb dX7_judge_109 rfl hl (by decide) rfl (fun ls hl => ?_)
                refine lv_goto (tgt := 22) hx hb dX7_judge_110 (by decide) ?_
                exact hback1 _ (Option.some.inj hf).symm H locs ls hP hS (lv_sub hl [3, 4, 0, 1] rfl)
              · have hf := (if_neg hc16).symm.trans hf
                refine lv_aload_n hx hb dX7_judge_70 rfl (lv_at hl 1 rfl) ?_
                refine va_get (D := g.1) (ci := 5) (v := .ref (gm g 17)) (C := RX7) (T := TX7) (N := 27) hx hb hts iwX7 hown hK hP 0 k_md rfl 25 (by decide) hw1 (fun _ h9 => h9) rfl dX7_judge_71 ?_
                refine lv_bipush (v := (40 : Int32)) hx hb dX7_judge_74 (by decide) ?_
                refine lv_iload_n hx hb dX7_judge_76 rfl (lv_at hl 2 rfl) ?_
                refine lv_imul hx hb dX7_judge_77 ?_
                refine lv_iload_n hx hb dX7_judge_78 rfl (lv_at hl 3 rfl) ?_
                refine lv_iadd hx hb dX7_judge_79 ?_
                refine lv_iconst (v := (1 : Int32)) hx hb dX7_judge_80 (by decide) ?_
                refine lv_isub hx hb dX7_judge_81 ?_
                obtain ⟨hg17, hf⟩ := gd_some hf
                refine va_iald (f := m_numbers) hx hb hK hP 17 0 k_numbers rfl hg17 dX7_judge_82 ?_
                refine lv_iload hx hb dX7_judge_83 (lv_at hl 0 rfl) ?_
                obtain ⟨q18, hq18, hf⟩ := bd_some hf
                refine kr_S (st1 := [.int q18]) (va_runS (As := [.int (m_numbers ((((40 : Int32) * a1) + s4.1) - (1 : Int32)).toNatClampNeg), .int (m_numbers (((40 : Int32) * a1) + s4.1).toNatClampNeg)]) (rest := []) ⟨hx, hb, hml, hown, hts⟩ (ct_X7_apartOf l n (m_numbers ((((40 : Int32) * a1) + s4.1) - (1 : Int32)).toNatClampNeg) (m_numbers (((40 : Int32) * a1) + s4.1).toNatClampNeg) q18 hq18) (va_cwS 2 hts gX7_judge_X7_apartOf rfl rfl rfl hn_X7_apartOf ⟨Nat.le_of_ble_eq_true rfl, Nat.le_of_ble_eq_true rfl⟩) ⟨bl_N, pr_N rfl hNW⟩ rfl rfl hl.1 rfl (lv_room (Nat.le_of_ble_eq_true rfl)) dX7_judge_85 ⟨Nat.le_refl _, Nat.le_refl _⟩) rfl (fun hn19 => ?_)
                refine lv_iconst (v := (1 : Int32)) hx hb dX7_judge_88 (by decide) ?_
                refine lv_icmp_ne (tgt := 96) hx hb dX7_judge_89 (by decide) (fun hc20 => ?_) (fun hc20 => ?_)
                · have hf := (if_neg hc20).symm.trans hf
                  refine lv_iconst (v := (0 : Int32)) hx hb dX7_judge_96 (by decide) ?_
                  refine lv_istore_n (lv' := [(3, .int (0 : Int32)), (4, .int (m_numbers (((40 : Int32) * a1) + s4.1).toNatClampNeg)), (0, .ref (gm g 0)), (1, .int a1), (2, .int s4.1)]) hx hb dX7_judge_97 rfl hl (by decide) rfl (fun ls hl => ?_)
                  refine lv_iload_n hx hb dX7_judge_98 rfl (lv_at hl 4 rfl) ?_
                  refine lv_iload_n hx hb dX7_judge_99 rfl (lv_at hl 0 rfl) ?_
                  refine lv_if_eq (tgt := 107) hx hb dX7_judge_100 (by decide) (fun _ => ?_) (fun hc => absurd hc (by decide))
                  refine lv_iconst (v := (0 : Int32)) hx hb dX7_judge_107 (by decide) ?_
                  refine lv_iadd hx hb dX7_judge_108 ?_
                  refine lv_istore_n (lv' := [(2, .int (s4.1 + (0 : Int32))), (3, .int (0 : Int32)), (4, .int (m_numbers (((40 : Int32) * a1) + s4.1).toNatClampNeg)), (0, .ref (gm g 0)), (1, .int a1)]) hx hb dX7_judge_109 rfl hl (by decide) rfl (fun ls hl => ?_)
                  refine lv_goto (tgt := 22) hx hb dX7_judge_110 (by decide) ?_
                  exact hback1 _ (Option.some.inj hf).symm H locs ls hP hS (lv_sub hl [3, 4, 0, 1] rfl)
                · have hf := (if_pos hc20).symm.trans hf
                  refine lv_iconst (v := (1 : Int32)) hx hb dX7_judge_92 (by decide) ?_
                  refine lv_goto (tgt := 97) hx hb dX7_judge_93 (by decide) ?_
                  refine lv_istore_n (lv' := [(3, .int (1 : Int32)), (4, .int (m_numbers (((40 : Int32) * a1) + s4.1).toNatClampNeg)), (0, .ref (gm g 0)), (1, .int a1), (2, .int s4.1)]) hx hb dX7_judge_97 rfl hl (by decide) rfl (fun ls hl => ?_)
                  refine lv_iload_n hx hb dX7_judge_98 rfl (lv_at hl 4 rfl) ?_
                  refine lv_iload_n hx hb dX7_judge_99 rfl (lv_at hl 0 rfl) ?_
                  refine lv_if_eq (tgt := 107) hx hb dX7_judge_100 (by decide) (fun hc => absurd hc (by decide)) (fun _ => ?_)
                  refine lv_iconst (v := (1 : Int32)) hx hb dX7_judge_103 (by decide) ?_
                  refine lv_goto (tgt := 108) hx hb dX7_judge_104 (by decide) ?_
                  refine lv_iadd hx hb dX7_judge_108 ?_
                  refine lv_istore_n (lv' := [(2, .int (s4.1 + (1 : Int32))), (3, .int (1 : Int32)), (4, .int (m_numbers (((40 : Int32) * a1) + s4.1).toNatClampNeg)), (0, .ref (gm g 0)), (1, .int a1)]) hx hb dX7_judge_109 rfl hl (by decide) rfl (fun ls hl => ?_)
                  refine lv_goto (tgt := 22) hx hb dX7_judge_110 (by decide) ?_
                  exact hback1 _ (Option.some.inj hf).symm H locs ls hP hS (lv_sub hl [3, 4, 0, 1] rfl)
  · have hf := (if_neg hc3).symm.trans hf
    refine lv_aload_n hx hb dX7_judge_8 rfl (lv_at hl 0 rfl) ?_
    refine lv_aload_n hx hb dX7_judge_9 rfl (lv_at hl 0 rfl) ?_
    refine lv_iload_n hx hb dX7_judge_10 rfl (lv_at hl 1 rfl) ?_
    obtain ⟨q22, hq22, hf⟩ := bd_some hf
    refine kr_S (st1 := [.int q22, .ref (gm g 0)]) (va_runV (As := [.int a1]) (rest := [.ref (gm g 0)]) ⟨hx, hb, hml, hown, hts⟩ (ct_X7_lacks l n g m_now m_kept m_aside m_isKept m_found m_steps m_queue m_lives m_treads m_tape m_taped m_begins m_ends m_sort m_value m_isWrong m_items m_itemMany m_seedThen m_groundThen m_widths m_sizes m_numbers m_moved a1 q22 hq22) (cwV 1 hts gX7_judge_X7_lacks rfl rfl rfl hd_X7_lacks ⟨Nat.le_of_ble_eq_true rfl, Nat.le_of_ble_eq_true rfl⟩) ⟨bl_M, va_recv hK hP (ci := 5) (q0 := 0) rfl k_md, pr_M rfl hB hP hS⟩ rfl rfl hl.1 rfl (lv_room (Nat.le_of_ble_eq_true rfl)) dX7_judge_11 ⟨Nat.le_refl _, Nat.le_refl _⟩) rfl (fun hn23 => ?_)
    obtain ⟨q24, hq24, hf⟩ := bd_some hf
    refine kr_W (st1 := [.int q24.1]) (va_runV (As := [.int q22]) (rest := []) ⟨hx, hb, hml, hown, hts⟩ (ct_X7_finding l n g m_now m_kept m_aside m_isKept m_found m_steps m_queue m_lives m_treads m_tape m_taped m_begins m_ends m_sort m_value m_isWrong m_items m_itemMany m_seedThen m_groundThen m_widths m_sizes m_numbers m_moved q22 q24 hq24) (cwV 1 hts gX7_judge_X7_finding rfl rfl rfl hd_X7_finding ⟨Nat.le_of_ble_eq_true rfl, Nat.le_of_ble_eq_true rfl⟩) ⟨bl_M, va_recv hK hP (ci := 5) (q0 := 0) rfl k_md, pr_M rfl hB hP hS⟩ rfl rfl hl.1 rfl (lv_room (Nat.le_of_ble_eq_true rfl)) dX7_judge_14 ⟨Nat.le_refl _, Nat.le_refl _⟩) hS rfl (fun hn25 H locs hP hS => ?_)
    have hP : va_P g.1 vwCl (mw g (m_now, m_kept, m_aside, m_isKept, q24.2, m_steps, m_queue, m_lives, m_treads, m_tape, m_taped, m_begins, m_ends, m_sort, m_value, m_isWrong, m_items, m_itemMany, m_seedThen, m_groundThen, m_widths, m_sizes, m_numbers, m_moved)) H := hP
    have hres : (q24.1, q24.2) = res := (Option.some.inj hf)
    have hP := w_eq (congrArg (fun z => mw g (m_now, m_kept, m_aside, m_isKept, z.2, m_steps, m_queue, m_lives, m_treads, m_tape, m_taped, m_begins, m_ends, m_sort, m_value, m_isWrong, m_items, m_itemMany, m_seedThen, m_groundThen, m_widths, m_sizes, m_numbers, m_moved)) hres) hP
    exact W.iret (v := q24.1) hx hb hr (fun t ht hW => ⟨congrArg (fun z => Outcome.returned (some (Value.int z.1))) hres, trivial, by rw [ht]; exact hP, hS.F ht⟩) hS.2.2 dX7_judge_17
set_option maxHeartbeats 4000000 in
set_option maxRecDepth 100000 in
theorem ct_X7_image (l : Launch) (n : Nat) (g : GM) (m_now : Nat → Int32) (m_kept : Nat → Int32) (m_aside : Nat → Int32) (m_isKept : Int32) (m_found : Nat → Int32) (m_steps : Nat → Int32) (m_queue : Nat → Int32) (m_lives : Nat → Int32) (m_treads : Nat → Int32) (m_tape : Nat → Int32) (m_taped : Int32) (m_begins : Int32) (m_ends : Int32) (m_sort : Int32) (m_value : Int32) (m_isWrong : Int32) (m_items : Nat → Int32) (m_itemMany : Int32) (m_seedThen : Int32) (m_groundThen : Nat → Int32) (m_widths : Nat → Int32) (m_sizes : Nat → Int32) (m_numbers : Nat → Int32) (m_moved : Nat → Int32) (res : Int32 × (Nat → Int32) × Int32) (hf : fX7_image n m_now m_kept m_isKept = some res) : Met l yX7_image wsX7_image ({ frames := 1, cells := 0, slots := 0, locals := 22 }) (va_Pc [.ref (gm g 0)] (mI g (m_now, m_kept, m_aside, m_isKept, m_found, m_steps, m_queue, m_lives, m_treads, m_tape, m_taped, m_begins, m_ends, m_sort, m_value, m_isWrong, m_items, m_itemMany, m_seedThen, m_groundThen, m_widths, m_sizes, m_numbers, m_moved))) (qW (some (.int res.1)) True g.1 (mw g (m_now, res.2.1, m_aside, res.2.2, m_found, m_steps, m_queue, m_lives, m_treads, m_tape, m_taped, m_begins, m_ends, m_sort, m_value, m_isWrong, m_items, m_itemMany, m_seedThen, m_groundThen, m_widths, m_sizes, m_numbers, m_moved)) (mA g)) 0 0 (mA g) := by
  refine Met.ofW (cc := cX7_image) (maxL := 1) (ret := (some .int)) (by decide) rfl ?_
  intro p e s m args below meth c s₁ B hml hv
  obtain ⟨rfl, hI⟩ := hv
  have hx := B.exec
  have hb := B.bytes
  have hr := B.returns
  have hts := atoms_spec (ws := wsX7_image) B.pre
  have hown : s.vm.findClass RX7 = some m.cls := findClass_of_methodNamed B.named
  have hlocks := B.notSynchronized
  have hP := hI.1
  have hB := hI.2
  have hK := hB.1
  have hNW := hB.2.1
  have hS : va_S (mA g) s.heap s.heap [] := va_S.rf
  have hw0 := hts (.fieldLink RX7 9 "SownPathsModel" "now" "[I") (by decide +kernel)
  have hw1 := hts (.fieldLink RX7 13 "SownPathsModel" "kept" "[I") (by decide +kernel)
  have hw2 := hts (.fieldLink RX7 381 "SownPathsModel" "isKept" "Z") (by decide +kernel)
  have iwX7 : ∀ w ∈ wsX70, w ∈ wsX7_image := fun w h => List.mem_cons_of_mem _ (List.mem_append_right _ h)
  have hl := lv_entry ([.ref (gm g 0)]) (n := 1) (Nat.le_of_ble_eq_true rfl)
  rw [lg_entry_eq]
  generalize (lg_sl ([.ref (gm g 0)]) ++ List.replicate (1 - (lg_sl ([.ref (gm g 0)])).length) Slot.unset).toArray = ls at hl ⊢
  have hl : lv_has ls 1 [(0, .ref (gm g 0))] := hl
  unfold fX7_image at hf
  refine lv_aload_n hx hb dX7_image_0 rfl (lv_at hl 0 rfl) ?_
  refine va_get (D := g.1) (ci := 5) (v := .ref (gm g 1)) (C := RX7) (T := TX7) (N := 27) hx hb hts iwX7 hown hK hP 0 k_md rfl 0 (by decide) hw0 (fun _ h9 => h9) rfl dX7_image_1 ?_
  refine lv_aload_n hx hb dX7_image_4 rfl (lv_at hl 0 rfl) ?_
  refine va_get (D := g.1) (ci := 5) (v := .ref (gm g 2)) (C := RX7) (T := TX7) (N := 27) hx hb hts iwX7 hown hK hP 0 k_md rfl 1 (by decide) hw1 (fun _ h9 => h9) rfl dX7_image_5 ?_
  obtain ⟨q1, hq1, hf⟩ := bd_some hf
  refine kr_W (st1 := []) (va_runS (As := [.ref (gm g 1), .ref (gm g 2)]) (rest := []) ⟨hx, hb, hml, hown, hts⟩ (ct_X7_copyRow l n g (m_now, m_kept, m_aside, m_isKept, m_found, m_steps, m_queue, m_lives, m_treads, m_tape, m_taped, m_begins, m_ends, m_sort, m_value, m_isWrong, m_items, m_itemMany, m_seedThen, m_groundThen, m_widths, m_sizes, m_numbers, m_moved) 2 117 m_kept k_kept 1 117 m_now k_now (by decide) q1 hq1) (va_cwS 2 hts gX7_image_X7_copyRow rfl rfl rfl hn_X7_copyRow ⟨Nat.le_of_ble_eq_true rfl, Nat.le_of_ble_eq_true rfl⟩) ⟨bl_M, pr_M rfl hB hP hS⟩ rfl rfl hl.1 rfl (lv_room (Nat.le_of_ble_eq_true rfl)) dX7_image_8 ⟨Nat.le_refl _, Nat.le_refl _⟩) hS rfl (fun hn2 H locs hP hS => ?_)
  have hP : va_P g.1 vwCl (mw g (m_now, q1, m_aside, m_isKept, m_found, m_steps, m_queue, m_lives, m_treads, m_tape, m_taped, m_begins, m_ends, m_sort, m_value, m_isWrong, m_items, m_itemMany, m_seedThen, m_groundThen, m_widths, m_sizes, m_numbers, m_moved)) H := w_eq (k_set_kept q1) hP
  refine lv_aload_n hx hb dX7_image_11 rfl (lv_at hl 0 rfl) ?_
  refine lv_iconst (v := (1 : Int32)) hx hb dX7_image_12 (by decide) ?_
  refine va_put (D := g.1) (ci := 5) (v := .int (1 : Int32)) (ty := .boolean) (C := RX7) (T := TX7) (N := 27) hx hb hts iwX7 tyX7 tyX7_ok nmX7 hown hK hP (mD hB.2.2.1 _) hS 0 k_md rfl 3 (by decide) hw2 (fun _ h9 => h9) rfl (tyX7_ok 3 (by decide)) rfl rfl (Nat.le_of_ble_eq_true rfl) dX7_image_13 (fun H locs hP _ hS => ?_)
  have hP : va_P g.1 vwCl (mw g (m_now, q1, m_aside, (1 : Int32), m_found, m_steps, m_queue, m_lives, m_treads, m_tape, m_taped, m_begins, m_ends, m_sort, m_value, m_isWrong, m_items, m_itemMany, m_seedThen, m_groundThen, m_widths, m_sizes, m_numbers, m_moved)) H := w_eq (k_set_isKept (1 : Int32)) hP
  refine lv_iconst (v := (1 : Int32)) hx hb dX7_image_16 (by decide) ?_
  have hres : ((1 : Int32), q1, (1 : Int32)) = res := (Option.some.inj hf)
  have hP := w_eq (congrArg (fun z => mw g (m_now, z.2.1, m_aside, z.2.2, m_found, m_steps, m_queue, m_lives, m_treads, m_tape, m_taped, m_begins, m_ends, m_sort, m_value, m_isWrong, m_items, m_itemMany, m_seedThen, m_groundThen, m_widths, m_sizes, m_numbers, m_moved)) hres) hP
  exact W.iret (v := (1 : Int32)) hx hb hr (fun t ht hW => ⟨congrArg (fun z => Outcome.returned (some (Value.int z.1))) hres, trivial, by rw [ht]; exact hP, hS.F ht⟩) hS.2.2 dX7_image_17
set_option maxHeartbeats 4000000 in
set_option maxRecDepth 100000 in
theorem ct_X7_undo (l : Launch) (n : Nat) (g : GM) (m_now : Nat → Int32) (m_kept : Nat → Int32) (m_aside : Nat → Int32) (m_isKept : Int32) (m_found : Nat → Int32) (m_steps : Nat → Int32) (m_queue : Nat → Int32) (m_lives : Nat → Int32) (m_treads : Nat → Int32) (m_tape : Nat → Int32) (m_taped : Int32) (m_begins : Int32) (m_ends : Int32) (m_sort : Int32) (m_value : Int32) (m_isWrong : Int32) (m_items : Nat → Int32) (m_itemMany : Int32) (m_seedThen : Int32) (m_groundThen : Nat → Int32) (m_widths : Nat → Int32) (m_sizes : Nat → Int32) (m_numbers : Nat → Int32) (m_moved : Nat → Int32) (res : Int32 × (Nat → Int32) × (Nat → Int32)) (hf : fX7_undo n m_now m_kept m_isKept m_found = some res) : Met l yX7_undo wsX7_undo ({ frames := 1, cells := 0, slots := 0, locals := 22 }) (va_Pc [.ref (gm g 0)] (mI g (m_now, m_kept, m_aside, m_isKept, m_found, m_steps, m_queue, m_lives, m_treads, m_tape, m_taped, m_begins, m_ends, m_sort, m_value, m_isWrong, m_items, m_itemMany, m_seedThen, m_groundThen, m_widths, m_sizes, m_numbers, m_moved))) (qW (some (.int res.1)) True g.1 (mw g (res.2.1, m_kept, m_aside, m_isKept, res.2.2, m_steps, m_queue, m_lives, m_treads, m_tape, m_taped, m_begins, m_ends, m_sort, m_value, m_isWrong, m_items, m_itemMany, m_seedThen, m_groundThen, m_widths, m_sizes, m_numbers, m_moved)) (mA g)) 0 0 (mA g) := by
  refine Met.ofW (cc := cX7_undo) (maxL := 1) (ret := (some .int)) (by decide) rfl ?_
  intro p e s m args below meth c s₁ B hml hv
  obtain ⟨rfl, hI⟩ := hv
  have hx := B.exec
  have hb := B.bytes
  have hr := B.returns
  have hts := atoms_spec (ws := wsX7_undo) B.pre
  have hown : s.vm.findClass RX7 = some m.cls := findClass_of_methodNamed B.named
  have hlocks := B.notSynchronized
  have hP := hI.1
  have hB := hI.2
  have hK := hB.1
  have hNW := hB.2.1
  have hS : va_S (mA g) s.heap s.heap [] := va_S.rf
  have hw0 := hts (.fieldLink RX7 381 "SownPathsModel" "isKept" "Z") (by decide +kernel)
  have hw1 := hts (.fieldLink RX7 13 "SownPathsModel" "kept" "[I") (by decide +kernel)
  have hw2 := hts (.fieldLink RX7 9 "SownPathsModel" "now" "[I") (by decide +kernel)
  have hw3 := hts (.constant RX7 100 (-1000004)) (by decide +kernel)
  have iwX7 : ∀ w ∈ wsX70, w ∈ wsX7_undo := fun w h => List.mem_cons_of_mem _ (List.mem_append_right _ h)
  have hl := lv_entry ([.ref (gm g 0)]) (n := 1) (Nat.le_of_ble_eq_true rfl)
  rw [lg_entry_eq]
  generalize (lg_sl ([.ref (gm g 0)]) ++ List.replicate (1 - (lg_sl ([.ref (gm g 0)])).length) Slot.unset).toArray = ls at hl ⊢
  have hl : lv_has ls 1 [(0, .ref (gm g 0))] := hl
  unfold fX7_undo at hf
  refine lv_aload_n hx hb dX7_undo_0 rfl (lv_at hl 0 rfl) ?_
  refine va_get (D := g.1) (ci := 5) (v := .int m_isKept) (C := RX7) (T := TX7) (N := 27) hx hb hts iwX7 hown hK hP 0 k_md rfl 3 (by decide) hw0 (fun _ h9 => h9) rfl dX7_undo_1 ?_
  refine lv_if_ne (tgt := 14) hx hb dX7_undo_4 (by decide) (fun hc1 => ?_) (fun hc1 => ?_)
  · have hf := (if_neg hc1).symm.trans hf
    refine lv_aload_n hx hb dX7_undo_14 rfl (lv_at hl 0 rfl) ?_
    refine va_get (D := g.1) (ci := 5) (v := .ref (gm g 2)) (C := RX7) (T := TX7) (N := 27) hx hb hts iwX7 hown hK hP 0 k_md rfl 1 (by decide) hw1 (fun _ h9 => h9) rfl dX7_undo_15 ?_
    refine lv_aload_n hx hb dX7_undo_18 rfl (lv_at hl 0 rfl) ?_
    refine va_get (D := g.1) (ci := 5) (v := .ref (gm g 1)) (C := RX7) (T := TX7) (N := 27) hx hb hts iwX7 hown hK hP 0 k_md rfl 0 (by decide) hw2 (fun _ h9 => h9) rfl dX7_undo_19 ?_
    obtain ⟨q2, hq2, hf⟩ := bd_some hf
    refine kr_W (st1 := []) (va_runS (As := [.ref (gm g 2), .ref (gm g 1)]) (rest := []) ⟨hx, hb, hml, hown, hts⟩ (ct_X7_copyRow l n g (m_now, m_kept, m_aside, m_isKept, m_found, m_steps, m_queue, m_lives, m_treads, m_tape, m_taped, m_begins, m_ends, m_sort, m_value, m_isWrong, m_items, m_itemMany, m_seedThen, m_groundThen, m_widths, m_sizes, m_numbers, m_moved) 1 117 m_now k_now 2 117 m_kept k_kept (by decide) q2 hq2) (va_cwS 2 hts gX7_undo_X7_copyRow rfl rfl rfl hn_X7_copyRow ⟨Nat.le_of_ble_eq_true rfl, Nat.le_of_ble_eq_true rfl⟩) ⟨bl_M, pr_M rfl hB hP hS⟩ rfl rfl hl.1 rfl (lv_room (Nat.le_of_ble_eq_true rfl)) dX7_undo_22 ⟨Nat.le_refl _, Nat.le_refl _⟩) hS rfl (fun hn3 H locs hP hS => ?_)
    have hP : va_P g.1 vwCl (mw g (q2, m_kept, m_aside, m_isKept, m_found, m_steps, m_queue, m_lives, m_treads, m_tape, m_taped, m_begins, m_ends, m_sort, m_value, m_isWrong, m_items, m_itemMany, m_seedThen, m_groundThen, m_widths, m_sizes, m_numbers, m_moved)) H := w_eq (k_set_now q2) hP
    refine lv_aload_n hx hb dX7_undo_25 rfl (lv_at hl 0 rfl) ?_
    refine va_get (D := g.1) (ci := 5) (v := .ref (gm g 1)) (C := RX7) (T := TX7) (N := 27) hx hb hts iwX7 hown hK hP 0 k_md rfl 0 (by decide) hw2 (fun _ h9 => h9) rfl dX7_undo_26 ?_
    refine lv_iconst (v := (0 : Int32)) hx hb dX7_undo_29 (by decide) ?_
    refine va_iald (f := q2) hx hb hK hP 1 0 k_now rfl (vi_lit (by decide)) dX7_undo_30 ?_
    have hres : ((q2 (0 : Int32).toNatClampNeg), q2, m_found) = res := (Option.some.inj hf)
    have hP := w_eq (congrArg (fun z => mw g (z.2.1, m_kept, m_aside, m_isKept, z.2.2, m_steps, m_queue, m_lives, m_treads, m_tape, m_taped, m_begins, m_ends, m_sort, m_value, m_isWrong, m_items, m_itemMany, m_seedThen, m_groundThen, m_widths, m_sizes, m_numbers, m_moved)) hres) hP
    exact W.iret (v := (q2 (0 : Int32).toNatClampNeg)) hx hb hr (fun t ht hW => ⟨congrArg (fun z => Outcome.returned (some (Value.int z.1))) hres, trivial, by rw [ht]; exact hP, hS.F ht⟩) hS.2.2 dX7_undo_31
  · have hf := (if_pos hc1).symm.trans hf
    refine lv_aload_n hx hb dX7_undo_7 rfl (lv_at hl 0 rfl) ?_
    refine lv_ldc (v := (-1000004 : Int32)) hx hb hown hw3 dX7_undo_8 ?_
    obtain ⟨q4, hq4, hf⟩ := bd_some hf
    refine kr_W (st1 := [.int q4.1]) (va_runV (As := [.int (-1000004 : Int32)]) (rest := []) ⟨hx, hb, hml, hown, hts⟩ (ct_X7_finding l n g m_now m_kept m_aside m_isKept m_found m_steps m_queue m_lives m_treads m_tape m_taped m_begins m_ends m_sort m_value m_isWrong m_items m_itemMany m_seedThen m_groundThen m_widths m_sizes m_numbers m_moved (-1000004 : Int32) q4 hq4) (cwV 1 hts gX7_undo_X7_finding rfl rfl rfl hd_X7_finding ⟨Nat.le_of_ble_eq_true rfl, Nat.le_of_ble_eq_true rfl⟩) ⟨bl_M, va_recv hK hP (ci := 5) (q0 := 0) rfl k_md, pr_M rfl hB hP hS⟩ rfl rfl hl.1 rfl (lv_room (Nat.le_of_ble_eq_true rfl)) dX7_undo_10 ⟨Nat.le_refl _, Nat.le_refl _⟩) hS rfl (fun hn5 H locs hP hS => ?_)
    have hP : va_P g.1 vwCl (mw g (m_now, m_kept, m_aside, m_isKept, q4.2, m_steps, m_queue, m_lives, m_treads, m_tape, m_taped, m_begins, m_ends, m_sort, m_value, m_isWrong, m_items, m_itemMany, m_seedThen, m_groundThen, m_widths, m_sizes, m_numbers, m_moved)) H := hP
    have hres : (q4.1, m_now, q4.2) = res := (Option.some.inj hf)
    have hP := w_eq (congrArg (fun z => mw g (z.2.1, m_kept, m_aside, m_isKept, z.2.2, m_steps, m_queue, m_lives, m_treads, m_tape, m_taped, m_begins, m_ends, m_sort, m_value, m_isWrong, m_items, m_itemMany, m_seedThen, m_groundThen, m_widths, m_sizes, m_numbers, m_moved)) hres) hP
    exact W.iret (v := q4.1) hx hb hr (fun t ht hW => ⟨congrArg (fun z => Outcome.returned (some (Value.int z.1))) hres, trivial, by rw [ht]; exact hP, hS.F ht⟩) hS.2.2 dX7_undo_13
set_option maxHeartbeats 4000000 in
set_option maxRecDepth 100000 in
theorem ct_X7_tear (l : Launch) (n : Nat) (g : GM) (m_now : Nat → Int32) (m_kept : Nat → Int32) (m_aside : Nat → Int32) (m_isKept : Int32) (m_found : Nat → Int32) (m_steps : Nat → Int32) (m_queue : Nat → Int32) (m_lives : Nat → Int32) (m_treads : Nat → Int32) (m_tape : Nat → Int32) (m_taped : Int32) (m_begins : Int32) (m_ends : Int32) (m_sort : Int32) (m_value : Int32) (m_isWrong : Int32) (m_items : Nat → Int32) (m_itemMany : Int32) (m_seedThen : Int32) (m_groundThen : Nat → Int32) (m_widths : Nat → Int32) (m_sizes : Nat → Int32) (m_numbers : Nat → Int32) (m_moved : Nat → Int32) (res : Int32 × Int32) (hf : fX7_tear n m_isKept = some res) : Met l yX7_tear wsX7_tear ({ frames := 0, cells := 0, slots := 0, locals := 0 }) (va_Pc [.ref (gm g 0)] (mI g (m_now, m_kept, m_aside, m_isKept, m_found, m_steps, m_queue, m_lives, m_treads, m_tape, m_taped, m_begins, m_ends, m_sort, m_value, m_isWrong, m_items, m_itemMany, m_seedThen, m_groundThen, m_widths, m_sizes, m_numbers, m_moved))) (qW (some (.int res.1)) True g.1 (mw g (m_now, m_kept, m_aside, res.2, m_found, m_steps, m_queue, m_lives, m_treads, m_tape, m_taped, m_begins, m_ends, m_sort, m_value, m_isWrong, m_items, m_itemMany, m_seedThen, m_groundThen, m_widths, m_sizes, m_numbers, m_moved)) (mA g)) 0 0 (mA g) := by
  refine Met.ofW (cc := cX7_tear) (maxL := 2) (ret := (some .int)) (by decide) rfl ?_
  intro p e s m args below meth c s₁ B hml hv
  obtain ⟨rfl, hI⟩ := hv
  have hx := B.exec
  have hb := B.bytes
  have hr := B.returns
  have hts := atoms_spec (ws := wsX7_tear) B.pre
  have hown : s.vm.findClass RX7 = some m.cls := findClass_of_methodNamed B.named
  have hlocks := B.notSynchronized
  have hP := hI.1
  have hB := hI.2
  have hK := hB.1
  have hNW := hB.2.1
  have hS : va_S (mA g) s.heap s.heap [] := va_S.rf
  have hw0 := hts (.fieldLink RX7 381 "SownPathsModel" "isKept" "Z") (by decide +kernel)
  have iwX7 : ∀ w ∈ wsX70, w ∈ wsX7_tear := fun w h => List.mem_cons_of_mem _ (List.mem_append_right _ h)
  have hl := lv_entry ([.ref (gm g 0)]) (n := 2) (Nat.le_of_ble_eq_true rfl)
  rw [lg_entry_eq]
  generalize (lg_sl ([.ref (gm g 0)]) ++ List.replicate (2 - (lg_sl ([.ref (gm g 0)])).length) Slot.unset).toArray = ls at hl ⊢
  have hl : lv_has ls 2 [(0, .ref (gm g 0))] := hl
  unfold fX7_tear at hf
  refine lv_aload_n hx hb dX7_tear_0 rfl (lv_at hl 0 rfl) ?_
  refine va_get (D := g.1) (ci := 5) (v := .int m_isKept) (C := RX7) (T := TX7) (N := 27) hx hb hts iwX7 hown hK hP 0 k_md rfl 3 (by decide) hw0 (fun _ h9 => h9) rfl dX7_tear_1 ?_
  refine lv_if_eq (tgt := 11) hx hb dX7_tear_4 (by decide) (fun hc1 => ?_) (fun hc1 => ?_)
  · have hf := (if_pos hc1).symm.trans hf
    refine lv_iconst (v := (0 : Int32)) hx hb dX7_tear_11 (by decide) ?_
    refine lv_istore_n (lv' := [(1, .int (0 : Int32)), (0, .ref (gm g 0))]) hx hb dX7_tear_12 rfl hl (by decide) rfl (fun ls hl => ?_)
    refine lv_aload_n hx hb dX7_tear_13 rfl (lv_at hl 1 rfl) ?_
    refine lv_iconst (v := (0 : Int32)) hx hb dX7_tear_14 (by decide) ?_
    refine va_put (D := g.1) (ci := 5) (v := .int (0 : Int32)) (ty := .boolean) (C := RX7) (T := TX7) (N := 27) hx hb hts iwX7 tyX7 tyX7_ok nmX7 hown hK hP (mD hB.2.2.1 _) hS 0 k_md rfl 3 (by decide) hw0 (fun _ h9 => h9) rfl (tyX7_ok 3 (by decide)) rfl rfl (Nat.le_of_ble_eq_true rfl) dX7_tear_15 (fun H locs hP _ hS => ?_)
    have hP : va_P g.1 vwCl (mw g (m_now, m_kept, m_aside, (0 : Int32), m_found, m_steps, m_queue, m_lives, m_treads, m_tape, m_taped, m_begins, m_ends, m_sort, m_value, m_isWrong, m_items, m_itemMany, m_seedThen, m_groundThen, m_widths, m_sizes, m_numbers, m_moved)) H := w_eq (k_set_isKept (0 : Int32)) hP
    refine lv_iload_n hx hb dX7_tear_18 rfl (lv_at hl 0 rfl) ?_
    have hres : ((0 : Int32), (0 : Int32)) = res := (Option.some.inj hf)
    have hP := w_eq (congrArg (fun z => mw g (m_now, m_kept, m_aside, z.2, m_found, m_steps, m_queue, m_lives, m_treads, m_tape, m_taped, m_begins, m_ends, m_sort, m_value, m_isWrong, m_items, m_itemMany, m_seedThen, m_groundThen, m_widths, m_sizes, m_numbers, m_moved)) hres) hP
    exact W.iret (v := (0 : Int32)) hx hb hr (fun t ht hW => ⟨congrArg (fun z => Outcome.returned (some (Value.int z.1))) hres, trivial, by rw [ht]; exact hP, hS.F ht⟩) hS.2.2 dX7_tear_19
  · have hf := (if_neg hc1).symm.trans hf
    refine lv_iconst (v := (1 : Int32)) hx hb dX7_tear_7 (by decide) ?_
    refine lv_goto (tgt := 12) hx hb dX7_tear_8 (by decide) ?_
    refine lv_istore_n (lv' := [(1, .int (1 : Int32)), (0, .ref (gm g 0))]) hx hb dX7_tear_12 rfl hl (by decide) rfl (fun ls hl => ?_)
    refine lv_aload_n hx hb dX7_tear_13 rfl (lv_at hl 1 rfl) ?_
    refine lv_iconst (v := (0 : Int32)) hx hb dX7_tear_14 (by decide) ?_
    refine va_put (D := g.1) (ci := 5) (v := .int (0 : Int32)) (ty := .boolean) (C := RX7) (T := TX7) (N := 27) hx hb hts iwX7 tyX7 tyX7_ok nmX7 hown hK hP (mD hB.2.2.1 _) hS 0 k_md rfl 3 (by decide) hw0 (fun _ h9 => h9) rfl (tyX7_ok 3 (by decide)) rfl rfl (Nat.le_of_ble_eq_true rfl) dX7_tear_15 (fun H locs hP _ hS => ?_)
    have hP : va_P g.1 vwCl (mw g (m_now, m_kept, m_aside, (0 : Int32), m_found, m_steps, m_queue, m_lives, m_treads, m_tape, m_taped, m_begins, m_ends, m_sort, m_value, m_isWrong, m_items, m_itemMany, m_seedThen, m_groundThen, m_widths, m_sizes, m_numbers, m_moved)) H := w_eq (k_set_isKept (0 : Int32)) hP
    refine lv_iload_n hx hb dX7_tear_18 rfl (lv_at hl 0 rfl) ?_
    have hres : ((1 : Int32), (0 : Int32)) = res := (Option.some.inj hf)
    have hP := w_eq (congrArg (fun z => mw g (m_now, m_kept, m_aside, z.2, m_found, m_steps, m_queue, m_lives, m_treads, m_tape, m_taped, m_begins, m_ends, m_sort, m_value, m_isWrong, m_items, m_itemMany, m_seedThen, m_groundThen, m_widths, m_sizes, m_numbers, m_moved)) hres) hP
    exact W.iret (v := (1 : Int32)) hx hb hr (fun t ht hW => ⟨congrArg (fun z => Outcome.returned (some (Value.int z.1))) hres, trivial, by rw [ht]; exact hP, hS.F ht⟩) hS.2.2 dX7_tear_19
set_option maxHeartbeats 4000000 in
set_option maxRecDepth 100000 in
theorem ct_X7_count (l : Launch) (n : Nat) (g : GM) (m_now : Nat → Int32) (m_kept : Nat → Int32) (m_aside : Nat → Int32) (m_isKept : Int32) (m_found : Nat → Int32) (m_steps : Nat → Int32) (m_queue : Nat → Int32) (m_lives : Nat → Int32) (m_treads : Nat → Int32) (m_tape : Nat → Int32) (m_taped : Int32) (m_begins : Int32) (m_ends : Int32) (m_sort : Int32) (m_value : Int32) (m_isWrong : Int32) (m_items : Nat → Int32) (m_itemMany : Int32) (m_seedThen : Int32) (m_groundThen : Nat → Int32) (m_widths : Nat → Int32) (m_sizes : Nat → Int32) (m_numbers : Nat → Int32) (m_moved : Nat → Int32) (a1 : Int32) (res : Int32 × (Nat → Int32)) (hf : fX7_count n a1 m_now m_found m_lives m_taped = some res) : Met l yX7_count wsX7_count ({ frames := 4, cells := 0, slots := 0, locals := 87 }) (va_Pc [.ref (gm g 0), .int a1] (mI g (m_now, m_kept, m_aside, m_isKept, m_found, m_steps, m_queue, m_lives, m_treads, m_tape, m_taped, m_begins, m_ends, m_sort, m_value, m_isWrong, m_items, m_itemMany, m_seedThen, m_groundThen, m_widths, m_sizes, m_numbers, m_moved))) (qW (some (.int res.1)) True g.1 (mw g (m_now, m_kept, m_aside, m_isKept, res.2, m_steps, m_queue, m_lives, m_treads, m_tape, m_taped, m_begins, m_ends, m_sort, m_value, m_isWrong, m_items, m_itemMany, m_seedThen, m_groundThen, m_widths, m_sizes, m_numbers, m_moved)) (mA g)) 0 0 (mA g) := by
  refine Met.ofW (cc := cX7_count) (maxL := 4) (ret := (some .int)) (by decide) rfl ?_
  intro p e s m args below meth c s₁ B hml hv
  obtain ⟨rfl, hI⟩ := hv
  have hx := B.exec
  have hb := B.bytes
  have hr := B.returns
  have hts := atoms_spec (ws := wsX7_count) B.pre
  have hown : s.vm.findClass RX7 = some m.cls := findClass_of_methodNamed B.named
  have hlocks := B.notSynchronized
  have hP := hI.1
  have hB := hI.2
  have hK := hB.1
  have hNW := hB.2.1
  have hS : va_S (mA g) s.heap s.heap [] := va_S.rf
  have hw0 := hts (.fieldLink RX7 9 "SownPathsModel" "now" "[I") (by decide +kernel)
  have hw1 := hts (.fieldLink RX7 293 "SownPathsModel" "taped" "I") (by decide +kernel)
  have hw2 := hts (.constant RX7 95 (-1000001)) (by decide +kernel)
  have iwX7 : ∀ w ∈ wsX70, w ∈ wsX7_count := fun w h => List.mem_cons_of_mem _ (List.mem_append_right _ h)
  have hl := lv_entry ([.ref (gm g 0), .int a1]) (n := 4) (Nat.le_of_ble_eq_true rfl)
  rw [lg_entry_eq]
  generalize (lg_sl ([.ref (gm g 0), .int a1]) ++ List.replicate (4 - (lg_sl ([.ref (gm g 0), .int a1])).length) Slot.unset).toArray = ls at hl ⊢
  have hl : lv_has ls 4 [(0, .ref (gm g 0)), (1, .int a1)] := hl
  unfold fX7_count at hf
  refine lv_iconst (v := (0 : Int32)) hx hb dX7_count_0 (by decide) ?_
  refine lv_istore_n (lv' := [(2, .int (0 : Int32)), (0, .ref (gm g 0)), (1, .int a1)]) hx hb dX7_count_1 rfl hl (by decide) rfl (fun ls hl => ?_)
  refine lv_iload_n hx hb dX7_count_2 rfl (lv_at hl 2 rfl) ?_
  by_cases hc1 : a1 = (0 : Int32)
  · have hf := (if_pos hc1).symm.trans hf
    refine lv_tableIn (tgt := 48) hx hb dX7_count_3 (by rw [hc1]; decide) (by rw [hc1]; decide) (by rw [hc1]; rfl) (by decide) ?_
    refine lv_aload_n hx hb dX7_count_48 rfl (lv_at hl 1 rfl) ?_
    refine va_get (D := g.1) (ci := 5) (v := .ref (gm g 1)) (C := RX7) (T := TX7) (N := 27) hx hb hts iwX7 hown hK hP 0 k_md rfl 0 (by decide) hw0 (fun _ h9 => h9) rfl dX7_count_49 ?_
    refine lv_iconst (v := (0 : Int32)) hx hb dX7_count_52 (by decide) ?_
    refine va_iald (f := m_now) hx hb hK hP 1 0 k_now rfl (vi_lit (by decide)) dX7_count_53 ?_
    have hres : ((m_now (0 : Int32).toNatClampNeg), m_found) = res := (Option.some.inj hf)
    have hP := w_eq (congrArg (fun z => mw g (m_now, m_kept, m_aside, m_isKept, z.2, m_steps, m_queue, m_lives, m_treads, m_tape, m_taped, m_begins, m_ends, m_sort, m_value, m_isWrong, m_items, m_itemMany, m_seedThen, m_groundThen, m_widths, m_sizes, m_numbers, m_moved)) hres) hP
    exact W.iret (v := (m_now (0 : Int32).toNatClampNeg)) hx hb hr (fun t ht hW => ⟨congrArg (fun z => Outcome.returned (some (Value.int z.1))) hres, trivial, by rw [ht]; exact hP, hS.F ht⟩) hS.2.2 dX7_count_54
  · have hf := (if_neg hc1).symm.trans hf
    by_cases hc2 : a1 = (1 : Int32)
    · have hf := (if_pos hc2).symm.trans hf
      refine lv_tableIn (tgt := 55) hx hb dX7_count_3 (by rw [hc2]; decide) (by rw [hc2]; decide) (by rw [hc2]; rfl) (by decide) ?_
      refine lv_aload_n hx hb dX7_count_55 rfl (lv_at hl 1 rfl) ?_
      refine va_get (D := g.1) (ci := 5) (v := .ref (gm g 1)) (C := RX7) (T := TX7) (N := 27) hx hb hts iwX7 hown hK hP 0 k_md rfl 0 (by decide) hw0 (fun _ h9 => h9) rfl dX7_count_56 ?_
      refine lv_iconst (v := (1 : Int32)) hx hb dX7_count_59 (by decide) ?_
      refine va_iald (f := m_now) hx hb hK hP 1 0 k_now rfl (vi_lit (by decide)) dX7_count_60 ?_
      have hres : ((m_now (1 : Int32).toNatClampNeg), m_found) = res := (Option.some.inj hf)
      have hP := w_eq (congrArg (fun z => mw g (m_now, m_kept, m_aside, m_isKept, z.2, m_steps, m_queue, m_lives, m_treads, m_tape, m_taped, m_begins, m_ends, m_sort, m_value, m_isWrong, m_items, m_itemMany, m_seedThen, m_groundThen, m_widths, m_sizes, m_numbers, m_moved)) hres) hP
      exact W.iret (v := (m_now (1 : Int32).toNatClampNeg)) hx hb hr (fun t ht hW => ⟨congrArg (fun z => Outcome.returned (some (Value.int z.1))) hres, trivial, by rw [ht]; exact hP, hS.F ht⟩) hS.2.2 dX7_count_61
    · have hf := (if_neg hc2).symm.trans hf
      by_cases hc3 : a1 = (2 : Int32)
      · have hf := (if_pos hc3).symm.trans hf
        refine lv_tableIn (tgt := 62) hx hb dX7_count_3 (by rw [hc3]; decide) (by rw [hc3]; decide) (by rw [hc3]; rfl) (by decide) ?_
        refine lv_aload_n hx hb dX7_count_62 rfl (lv_at hl 1 rfl) ?_
        obtain ⟨q4, hq4, hf⟩ := bd_some hf
        refine kr_S (st1 := [.int q4]) (va_runV (As := []) (rest := []) ⟨hx, hb, hml, hown, hts⟩ (ct_X7_aliveNow l n g m_now m_kept m_aside m_isKept m_found m_steps m_queue m_lives m_treads m_tape m_taped m_begins m_ends m_sort m_value m_isWrong m_items m_itemMany m_seedThen m_groundThen m_widths m_sizes m_numbers m_moved q4 hq4) (cwV 0 hts gX7_count_X7_aliveNow rfl rfl rfl hd_X7_aliveNow ⟨Nat.le_of_ble_eq_true rfl, Nat.le_of_ble_eq_true rfl⟩) ⟨bl_M, va_recv hK hP (ci := 5) (q0 := 0) rfl k_md, pr_M rfl hB hP hS⟩ rfl rfl hl.1 rfl (lv_room (Nat.le_of_ble_eq_true rfl)) dX7_count_63 ⟨Nat.le_refl _, Nat.le_refl _⟩) rfl (fun hn5 => ?_)
        obtain ⟨q6, hq6, hf⟩ := bd_some hf
        refine kr_S (st1 := [.int q6]) (va_runS (As := [.int q4]) (rest := []) ⟨hx, hb, hml, hown, hts⟩ (ct_X7_bits l n q4 q6 hq6) (va_cwS 1 hts gX7_count_X7_bits rfl rfl rfl hn_X7_bits ⟨Nat.le_of_ble_eq_true rfl, Nat.le_of_ble_eq_true rfl⟩) ⟨bl_N, pr_N rfl hNW⟩ rfl rfl hl.1 rfl (lv_room (Nat.le_of_ble_eq_true rfl)) dX7_count_66 ⟨Nat.le_refl _, Nat.le_refl _⟩) rfl (fun hn7 => ?_)
        have hres : (q6, m_found) = res := (Option.some.inj hf)
        have hP := w_eq (congrArg (fun z => mw g (m_now, m_kept, m_aside, m_isKept, z.2, m_steps, m_queue, m_lives, m_treads, m_tape, m_taped, m_begins, m_ends, m_sort, m_value, m_isWrong, m_items, m_itemMany, m_seedThen, m_groundThen, m_widths, m_sizes, m_numbers, m_moved)) hres) hP
        exact W.iret (v := q6) hx hb hr (fun t ht hW => ⟨congrArg (fun z => Outcome.returned (some (Value.int z.1))) hres, trivial, by rw [ht]; exact hP, hS.F ht⟩) hS.2.2 dX7_count_69
      · have hf := (if_neg hc3).symm.trans hf
        by_cases hc8 : a1 = (3 : Int32)
        · have hf := (if_pos hc8).symm.trans hf
          refine lv_tableIn (tgt := 70) hx hb dX7_count_3 (by rw [hc8]; decide) (by rw [hc8]; decide) (by rw [hc8]; rfl) (by decide) ?_
          refine lv_aload_n hx hb dX7_count_70 rfl (lv_at hl 1 rfl) ?_
          obtain ⟨q9, hq9, hf⟩ := bd_some hf
          refine kr_S (st1 := [.int q9]) (va_runV (As := []) (rest := []) ⟨hx, hb, hml, hown, hts⟩ (ct_X7_pathsNow l n g m_now m_kept m_aside m_isKept m_found m_steps m_queue m_lives m_treads m_tape m_taped m_begins m_ends m_sort m_value m_isWrong m_items m_itemMany m_seedThen m_groundThen m_widths m_sizes m_numbers m_moved q9 hq9) (cwV 0 hts gX7_count_X7_pathsNow rfl rfl rfl hd_X7_pathsNow ⟨Nat.le_of_ble_eq_true rfl, Nat.le_of_ble_eq_true rfl⟩) ⟨bl_M, va_recv hK hP (ci := 5) (q0 := 0) rfl k_md, pr_M rfl hB hP hS⟩ rfl rfl hl.1 rfl (lv_room (Nat.le_of_ble_eq_true rfl)) dX7_count_71 ⟨Nat.le_refl _, Nat.le_refl _⟩) rfl (fun hn10 => ?_)
          have hres : (q9, m_found) = res := (Option.some.inj hf)
          have hP := w_eq (congrArg (fun z => mw g (m_now, m_kept, m_aside, m_isKept, z.2, m_steps, m_queue, m_lives, m_treads, m_tape, m_taped, m_begins, m_ends, m_sort, m_value, m_isWrong, m_items, m_itemMany, m_seedThen, m_groundThen, m_widths, m_sizes, m_numbers, m_moved)) hres) hP
          exact W.iret (v := q9) hx hb hr (fun t ht hW => ⟨congrArg (fun z => Outcome.returned (some (Value.int z.1))) hres, trivial, by rw [ht]; exact hP, hS.F ht⟩) hS.2.2 dX7_count_74
        · have hf := (if_neg hc8).symm.trans hf
          by_cases hc11 : a1 = (4 : Int32)
          · have hf := (if_pos hc11).symm.trans hf
            refine lv_tableIn (tgt := 75) hx hb dX7_count_3 (by rw [hc11]; decide) (by rw [hc11]; decide) (by rw [hc11]; rfl) (by decide) ?_
            refine lv_aload_n hx hb dX7_count_75 rfl (lv_at hl 1 rfl) ?_
            obtain ⟨q12, hq12, hf⟩ := bd_some hf
            refine kr_S (st1 := [.int q12]) (va_runV (As := []) (rest := []) ⟨hx, hb, hml, hown, hts⟩ (ct_X7_benches l n g m_now m_kept m_aside m_isKept m_found m_steps m_queue m_lives m_treads m_tape m_taped m_begins m_ends m_sort m_value m_isWrong m_items m_itemMany m_seedThen m_groundThen m_widths m_sizes m_numbers m_moved q12 hq12) (cwV 0 hts gX7_count_X7_benches rfl rfl rfl hd_X7_benches ⟨Nat.le_of_ble_eq_true rfl, Nat.le_of_ble_eq_true rfl⟩) ⟨bl_M, va_recv hK hP (ci := 5) (q0 := 0) rfl k_md, pr_M rfl hB hP hS⟩ rfl rfl hl.1 rfl (lv_room (Nat.le_of_ble_eq_true rfl)) dX7_count_76 ⟨Nat.le_refl _, Nat.le_refl _⟩) rfl (fun hn13 => ?_)
            have hres : (q12, m_found) = res := (Option.some.inj hf)
            have hP := w_eq (congrArg (fun z => mw g (m_now, m_kept, m_aside, m_isKept, z.2, m_steps, m_queue, m_lives, m_treads, m_tape, m_taped, m_begins, m_ends, m_sort, m_value, m_isWrong, m_items, m_itemMany, m_seedThen, m_groundThen, m_widths, m_sizes, m_numbers, m_moved)) hres) hP
            exact W.iret (v := q12) hx hb hr (fun t ht hW => ⟨congrArg (fun z => Outcome.returned (some (Value.int z.1))) hres, trivial, by rw [ht]; exact hP, hS.F ht⟩) hS.2.2 dX7_count_79
          · have hf := (if_neg hc11).symm.trans hf
            by_cases hc14 : a1 = (5 : Int32)
            · have hf := (if_pos hc14).symm.trans hf
              refine lv_tableIn (tgt := 80) hx hb dX7_count_3 (by rw [hc14]; decide) (by rw [hc14]; decide) (by rw [hc14]; rfl) (by decide) ?_
              refine lv_aload_n hx hb dX7_count_80 rfl (lv_at hl 1 rfl) ?_
              refine va_get (D := g.1) (ci := 5) (v := .int m_taped) (C := RX7) (T := TX7) (N := 27) hx hb hts iwX7 hown hK hP 0 k_md rfl 10 (by decide) hw1 (fun _ h9 => h9) rfl dX7_count_81 ?_
              have hres : (m_taped, m_found) = res := (Option.some.inj hf)
              have hP := w_eq (congrArg (fun z => mw g (m_now, m_kept, m_aside, m_isKept, z.2, m_steps, m_queue, m_lives, m_treads, m_tape, m_taped, m_begins, m_ends, m_sort, m_value, m_isWrong, m_items, m_itemMany, m_seedThen, m_groundThen, m_widths, m_sizes, m_numbers, m_moved)) hres) hP
              exact W.iret (v := m_taped) hx hb hr (fun t ht hW => ⟨congrArg (fun z => Outcome.returned (some (Value.int z.1))) hres, trivial, by rw [ht]; exact hP, hS.F ht⟩) hS.2.2 dX7_count_84
            · have hf := (if_neg hc14).symm.trans hf
              by_cases hc15 : a1 = (6 : Int32)
              · have hf := (if_pos hc15).symm.trans hf
                refine lv_tableIn (tgt := 85) hx hb dX7_count_3 (by rw [hc15]; decide) (by rw [hc15]; decide) (by rw [hc15]; rfl) (by decide) ?_
                refine lv_aload_n hx hb dX7_count_85 rfl (lv_at hl 1 rfl) ?_
                refine va_get (D := g.1) (ci := 5) (v := .ref (gm g 1)) (C := RX7) (T := TX7) (N := 27) hx hb hts iwX7 hown hK hP 0 k_md rfl 0 (by decide) hw0 (fun _ h9 => h9) rfl dX7_count_86 ?_
                refine lv_iconst (v := (2 : Int32)) hx hb dX7_count_89 (by decide) ?_
                refine va_iald (f := m_now) hx hb hK hP 1 0 k_now rfl (vi_lit (by decide)) dX7_count_90 ?_
                have hres : ((m_now (2 : Int32).toNatClampNeg), m_found) = res := (Option.some.inj hf)
                have hP := w_eq (congrArg (fun z => mw g (m_now, m_kept, m_aside, m_isKept, z.2, m_steps, m_queue, m_lives, m_treads, m_tape, m_taped, m_begins, m_ends, m_sort, m_value, m_isWrong, m_items, m_itemMany, m_seedThen, m_groundThen, m_widths, m_sizes, m_numbers, m_moved)) hres) hP
                exact W.iret (v := (m_now (2 : Int32).toNatClampNeg)) hx hb hr (fun t ht hW => ⟨congrArg (fun z => Outcome.returned (some (Value.int z.1))) hres, trivial, by rw [ht]; exact hP, hS.F ht⟩) hS.2.2 dX7_count_91
              · have hf := (if_neg hc15).symm.trans hf
                by_cases hc16 : a1 = (7 : Int32)
                · have hf := (if_pos hc16).symm.trans hf
                  refine lv_tableIn (tgt := 92) hx hb dX7_count_3 (by rw [hc16]; decide) (by rw [hc16]; decide) (by rw [hc16]; rfl) (by decide) ?_
                  refine lv_iconst (v := (0 : Int32)) hx hb dX7_count_92 (by decide) ?_
                  refine lv_istore_n (lv' := [(3, .int (0 : Int32)), (2, .int (0 : Int32)), (0, .ref (gm g 0)), (1, .int a1)]) hx hb dX7_count_93 rfl hl (by decide) rfl (fun ls hl => ?_)
                  refine lp_run hf (fun s17 => ∀ (H : Heap) (locs : List Loc) (ls : Array Slot), va_P g.1 vwCl (mw g (m_now, m_kept, m_aside, m_isKept, m_found, m_steps, m_queue, m_lives, m_treads, m_tape, m_taped, m_begins, m_ends, m_sort, m_value, m_isWrong, m_items, m_itemMany, m_seedThen, m_groundThen, m_widths, m_sizes, m_numbers, m_moved)) H → va_S (mA g) s.heap H locs → lv_has ls 4 [(0, .ref (gm g 0)), (2, .int s17.1), (3, .int s17.2)] → W p l e (headSpec wsX7_count ({ frames := 4, cells := 0, slots := 0, locals := 87 })).room s m ([.ref (gm g 0), .int a1] : List Value).toArray below meth c H locs 0 0 (MQ below (qW (some (.int res.1)) True g.1 (mw g (m_now, m_kept, m_aside, m_isKept, res.2, m_steps, m_queue, m_lives, m_treads, m_tape, m_taped, m_begins, m_ends, m_sort, m_value, m_isWrong, m_items, m_itemMany, m_seedThen, m_groundThen, m_widths, m_sizes, m_numbers, m_moved)) (mA g)) ([.ref (gm g 0), .int a1] : List Value).toArray s 0 0 (mA g)) (F0 m 94 ls [])) (fun v18 => ∀ (H : Heap) (locs : List Loc) (ls : Array Slot), va_P g.1 vwCl (mw g (m_now, m_kept, m_aside, m_isKept, m_found, m_steps, m_queue, m_lives, m_treads, m_tape, m_taped, m_begins, m_ends, m_sort, m_value, m_isWrong, m_items, m_itemMany, m_seedThen, m_groundThen, m_widths, m_sizes, m_numbers, m_moved)) H → va_S (mA g) s.heap H locs → lv_has ls 4 [(2, .int v18.1)] → W p l e (headSpec wsX7_count ({ frames := 4, cells := 0, slots := 0, locals := 87 })).room s m ([.ref (gm g 0), .int a1] : List Value).toArray below meth c H locs 0 0 (MQ below (qW (some (.int res.1)) True g.1 (mw g (m_now, m_kept, m_aside, m_isKept, res.2, m_steps, m_queue, m_lives, m_treads, m_tape, m_taped, m_begins, m_ends, m_sort, m_value, m_isWrong, m_items, m_itemMany, m_seedThen, m_groundThen, m_widths, m_sizes, m_numbers, m_moved)) (mA g)) ([.ref (gm g 0), .int a1] : List Value).toArray s 0 0 (mA g)) (F0 m 125 ls [])) ?_ ?_ _ _ _ hP hS (lv_sub hl [2, 1, 0] rfl)
                  · intro v18 hf H locs ls hP hS hl
                    refine lv_iload_n hx hb dX7_count_125 rfl (lv_at hl 0 rfl) ?_
                    have hres : (v18.1, m_found) = res := (Option.some.inj hf)
                    have hP := w_eq (congrArg (fun z => mw g (m_now, m_kept, m_aside, m_isKept, z.2, m_steps, m_queue, m_lives, m_treads, m_tape, m_taped, m_begins, m_ends, m_sort, m_value, m_isWrong, m_items, m_itemMany, m_seedThen, m_groundThen, m_widths, m_sizes, m_numbers, m_moved)) hres) hP
                    exact W.iret (v := v18.1) hx hb hr (fun t ht hW => ⟨congrArg (fun z => Outcome.returned (some (Value.int z.1))) hres, trivial, by rw [ht]; exact hP, hS.F ht⟩) hS.2.2 dX7_count_126
                  · intro s17 r1 hf hback1 hexit1 H locs ls hP hS hl
                    refine lv_iload_n hx hb dX7_count_94 rfl (lv_at hl 2 rfl) ?_
                    refine lv_bipush (v := (10 : Int32)) hx hb dX7_count_95 (by decide) ?_
                    refine lv_icmp_ge (tgt := 125) hx hb dX7_count_97 (by decide) (fun hc19 => ?_) (fun hc19 => ?_)
                    · have hf := (if_pos hc19).symm.trans hf
                      exact hexit1 (s17.1, s17.2) (Option.some.inj hf).symm H locs ls hP hS (lv_sub hl [1] rfl)
                    · have hf := (if_neg hc19).symm.trans hf
                      refine lv_iload_n hx hb dX7_count_100 rfl (lv_at hl 1 rfl) ?_
                      refine lv_aload_n hx hb dX7_count_101 rfl (lv_at hl 0 rfl) ?_
                      refine va_get (D := g.1) (ci := 5) (v := .ref (gm g 1)) (C := RX7) (T := TX7) (N := 27) hx hb hts iwX7 hown hK hP 0 k_md rfl 0 (by decide) hw0 (fun _ h9 => h9) rfl dX7_count_102 ?_
                      refine lv_iconst (v := (3 : Int32)) hx hb dX7_count_105 (by decide) ?_
                      refine lv_iload_n hx hb dX7_count_106 rfl (lv_at hl 2 rfl) ?_
                      refine lv_iadd hx hb dX7_count_107 ?_
                      obtain ⟨hg20, hf⟩ := gd_some hf
                      refine va_iald (f := m_now) hx hb hK hP 1 0 k_now rfl hg20 dX7_count_108 ?_
                      refine lv_if_ge (tgt := 116) hx hb dX7_count_109 (by decide) (fun hc21 => ?_) (fun hc21 => ?_)
                      · have hf := (if_pos hc21).symm.trans hf
                        refine lv_iconst (v := (1 : Int32)) hx hb dX7_count_116 (by decide) ?_
                        refine lv_iadd hx hb dX7_count_117 ?_
                        refine lv_istore_n (lv' := [(2, .int (s17.1 + (1 : Int32))), (0, .ref (gm g 0)), (3, .int s17.2)]) hx hb dX7_count_118 rfl hl (by decide) rfl (fun ls hl => ?_)
                        refine lv_iinc (v := (s17.2 + (1 : Int32))) (lv' := [(3, .int (s17.2 + (1 : Int32))), (2, .int (s17.1 + (1 : Int32))), (0, .ref (gm g 0))]) hx hb dX7_count_119 hl (k := 2) rfl (congrArg (fun y => s17.2 + y) (by decide : Int32.ofInt (1) = (1 : Int32))) (by decide) rfl (fun ls hl => ?_)
                        refine lv_goto (tgt := 94) hx hb dX7_count_122 (by decide) ?_
                        exact hback1 _ (Option.some.inj hf).symm H locs ls hP hS (lv_sub hl [2, 1, 0] rfl)
                      · have hf := (if_neg hc21).symm.trans hf
                        refine lv_iconst (v := (0 : Int32)) hx hb dX7_count_112 (by decide) ?_
                        refine lv_goto (tgt := 117) hx hb dX7_count_113 (by decide) ?_
                        refine lv_iadd hx hb dX7_count_117 ?_
                        refine lv_istore_n (lv' := [(2, .int (s17.1 + (0 : Int32))), (0, .ref (gm g 0)), (3, .int s17.2)]) hx hb dX7_count_118 rfl hl (by decide) rfl (fun ls hl => ?_)
                        refine lv_iinc (v := (s17.2 + (1 : Int32))) (lv' := [(3, .int (s17.2 + (1 : Int32))), (2, .int (s17.1 + (0 : Int32))), (0, .ref (gm g 0))]) hx hb dX7_count_119 hl (k := 2) rfl (congrArg (fun y => s17.2 + y) (by decide : Int32.ofInt (1) = (1 : Int32))) (by decide) rfl (fun ls hl => ?_)
                        refine lv_goto (tgt := 94) hx hb dX7_count_122 (by decide) ?_
                        exact hback1 _ (Option.some.inj hf).symm H locs ls hP hS (lv_sub hl [2, 1, 0] rfl)
                · have hf := (if_neg hc16).symm.trans hf
                  refine lv_tableOut (tgt := 127) hx hb dX7_count_3 (by have := lv_neT (a := 0) hc1 rfl; have := lv_neT (a := 1) hc2 rfl; have := lv_neT (a := 2) hc3 rfl; have := lv_neT (a := 3) hc8 rfl; have := lv_neT (a := 4) hc11 rfl; have := lv_neT (a := 5) hc14 rfl; have := lv_neT (a := 6) hc15 rfl; have := lv_neT (a := 7) hc16 rfl; omega) (by decide) ?_
                  refine lv_aload_n hx hb dX7_count_127 rfl (lv_at hl 1 rfl) ?_
                  refine lv_ldc (v := (-1000001 : Int32)) hx hb hown hw2 dX7_count_128 ?_
                  obtain ⟨q22, hq22, hf⟩ := bd_some hf
                  refine kr_W (st1 := [.int q22.1]) (va_runV (As := [.int (-1000001 : Int32)]) (rest := []) ⟨hx, hb, hml, hown, hts⟩ (ct_X7_finding l n g m_now m_kept m_aside m_isKept m_found m_steps m_queue m_lives m_treads m_tape m_taped m_begins m_ends m_sort m_value m_isWrong m_items m_itemMany m_seedThen m_groundThen m_widths m_sizes m_numbers m_moved (-1000001 : Int32) q22 hq22) (cwV 1 hts gX7_count_X7_finding rfl rfl rfl hd_X7_finding ⟨Nat.le_of_ble_eq_true rfl, Nat.le_of_ble_eq_true rfl⟩) ⟨bl_M, va_recv hK hP (ci := 5) (q0 := 0) rfl k_md, pr_M rfl hB hP hS⟩ rfl rfl hl.1 rfl (lv_room (Nat.le_of_ble_eq_true rfl)) dX7_count_130 ⟨Nat.le_refl _, Nat.le_refl _⟩) hS rfl (fun hn23 H locs hP hS => ?_)
                  have hP : va_P g.1 vwCl (mw g (m_now, m_kept, m_aside, m_isKept, q22.2, m_steps, m_queue, m_lives, m_treads, m_tape, m_taped, m_begins, m_ends, m_sort, m_value, m_isWrong, m_items, m_itemMany, m_seedThen, m_groundThen, m_widths, m_sizes, m_numbers, m_moved)) H := hP
                  have hres : (q22.1, q22.2) = res := (Option.some.inj hf)
                  have hP := w_eq (congrArg (fun z => mw g (m_now, m_kept, m_aside, m_isKept, z.2, m_steps, m_queue, m_lives, m_treads, m_tape, m_taped, m_begins, m_ends, m_sort, m_value, m_isWrong, m_items, m_itemMany, m_seedThen, m_groundThen, m_widths, m_sizes, m_numbers, m_moved)) hres) hP
                  exact W.iret (v := q22.1) hx hb hr (fun t ht hW => ⟨congrArg (fun z => Outcome.returned (some (Value.int z.1))) hres, trivial, by rw [ht]; exact hP, hS.F ht⟩) hS.2.2 dX7_count_133
set_option maxHeartbeats 4000000 in
set_option maxRecDepth 100000 in
theorem ct_X7_status (l : Launch) (n : Nat) (g : GM) (m_now : Nat → Int32) (m_kept : Nat → Int32) (m_aside : Nat → Int32) (m_isKept : Int32) (m_found : Nat → Int32) (m_steps : Nat → Int32) (m_queue : Nat → Int32) (m_lives : Nat → Int32) (m_treads : Nat → Int32) (m_tape : Nat → Int32) (m_taped : Int32) (m_begins : Int32) (m_ends : Int32) (m_sort : Int32) (m_value : Int32) (m_isWrong : Int32) (m_items : Nat → Int32) (m_itemMany : Int32) (m_seedThen : Int32) (m_groundThen : Nat → Int32) (m_widths : Nat → Int32) (m_sizes : Nat → Int32) (m_numbers : Nat → Int32) (m_moved : Nat → Int32) (a1 : Int32) (res : Int32 × (Nat → Int32)) (hf : fX7_status n a1 m_found = some res) : Met l yX7_status wsX7_status ({ frames := 1, cells := 0, slots := 0, locals := 22 }) (va_Pc [.ref (gm g 0), .int a1] (mI g (m_now, m_kept, m_aside, m_isKept, m_found, m_steps, m_queue, m_lives, m_treads, m_tape, m_taped, m_begins, m_ends, m_sort, m_value, m_isWrong, m_items, m_itemMany, m_seedThen, m_groundThen, m_widths, m_sizes, m_numbers, m_moved))) (qW (some (.int res.1)) True g.1 (mw g (m_now, m_kept, m_aside, m_isKept, res.2, m_steps, m_queue, m_lives, m_treads, m_tape, m_taped, m_begins, m_ends, m_sort, m_value, m_isWrong, m_items, m_itemMany, m_seedThen, m_groundThen, m_widths, m_sizes, m_numbers, m_moved)) (mA g)) 0 0 (mA g) := by
  refine Met.ofW (cc := cX7_status) (maxL := 2) (ret := (some .int)) (by decide) rfl ?_
  intro p e s m args below meth c s₁ B hml hv
  obtain ⟨rfl, hI⟩ := hv
  have hx := B.exec
  have hb := B.bytes
  have hr := B.returns
  have hts := atoms_spec (ws := wsX7_status) B.pre
  have hown : s.vm.findClass RX7 = some m.cls := findClass_of_methodNamed B.named
  have hlocks := B.notSynchronized
  have hP := hI.1
  have hB := hI.2
  have hK := hB.1
  have hNW := hB.2.1
  have hS : va_S (mA g) s.heap s.heap [] := va_S.rf
  have hw0 := hts (.constant RX7 95 (-1000001)) (by decide +kernel)
  have hw1 := hts (.fieldLink RX7 19 "SownPathsModel" "found" "[I") (by decide +kernel)
  have iwX7 : ∀ w ∈ wsX70, w ∈ wsX7_status := fun w h => List.mem_cons_of_mem _ (List.mem_append_right _ h)
  have hl := lv_entry ([.ref (gm g 0), .int a1]) (n := 2) (Nat.le_of_ble_eq_true rfl)
  rw [lg_entry_eq]
  generalize (lg_sl ([.ref (gm g 0), .int a1]) ++ List.replicate (2 - (lg_sl ([.ref (gm g 0), .int a1])).length) Slot.unset).toArray = ls at hl ⊢
  have hl : lv_has ls 2 [(0, .ref (gm g 0)), (1, .int a1)] := hl
  unfold fX7_status at hf
  refine lv_iload_n hx hb dX7_status_0 rfl (lv_at hl 1 rfl) ?_
  refine lv_iconst (v := (-1 : Int32)) hx hb dX7_status_1 (by decide) ?_
  refine lv_bipush (v := (6 : Int32)) hx hb dX7_status_2 (by decide) ?_
  obtain ⟨q1, hq1, hf⟩ := bd_some hf
  refine kr_S (st1 := [.int q1]) (va_runS (As := [.int a1, .int (-1 : Int32), .int (6 : Int32)]) (rest := []) ⟨hx, hb, hml, hown, hts⟩ (ct_X7_within l n a1 (-1 : Int32) (6 : Int32) q1 hq1) (va_cwS 3 hts gX7_status_X7_within rfl rfl rfl hn_X7_within ⟨Nat.le_of_ble_eq_true rfl, Nat.le_of_ble_eq_true rfl⟩) ⟨bl_N, pr_N rfl hNW⟩ rfl rfl hl.1 rfl (lv_room (Nat.le_of_ble_eq_true rfl)) dX7_status_4 ⟨Nat.le_refl _, Nat.le_refl _⟩) rfl (fun hn2 => ?_)
  refine lv_if_eq (tgt := 21) hx hb dX7_status_7 (by decide) (fun hc3 => ?_) (fun hc3 => ?_)
  · have hf := (if_pos hc3).symm.trans hf
    refine lv_aload_n hx hb dX7_status_21 rfl (lv_at hl 0 rfl) ?_
    refine lv_ldc (v := (-1000001 : Int32)) hx hb hown hw0 dX7_status_22 ?_
    obtain ⟨q4, hq4, hf⟩ := bd_some hf
    refine kr_W (st1 := [.int q4.1]) (va_runV (As := [.int (-1000001 : Int32)]) (rest := []) ⟨hx, hb, hml, hown, hts⟩ (ct_X7_finding l n g m_now m_kept m_aside m_isKept m_found m_steps m_queue m_lives m_treads m_tape m_taped m_begins m_ends m_sort m_value m_isWrong m_items m_itemMany m_seedThen m_groundThen m_widths m_sizes m_numbers m_moved (-1000001 : Int32) q4 hq4) (cwV 1 hts gX7_status_X7_finding rfl rfl rfl hd_X7_finding ⟨Nat.le_of_ble_eq_true rfl, Nat.le_of_ble_eq_true rfl⟩) ⟨bl_M, va_recv hK hP (ci := 5) (q0 := 0) rfl k_md, pr_M rfl hB hP hS⟩ rfl rfl hl.1 rfl (lv_room (Nat.le_of_ble_eq_true rfl)) dX7_status_24 ⟨Nat.le_refl _, Nat.le_refl _⟩) hS rfl (fun hn5 H locs hP hS => ?_)
    have hP : va_P g.1 vwCl (mw g (m_now, m_kept, m_aside, m_isKept, q4.2, m_steps, m_queue, m_lives, m_treads, m_tape, m_taped, m_begins, m_ends, m_sort, m_value, m_isWrong, m_items, m_itemMany, m_seedThen, m_groundThen, m_widths, m_sizes, m_numbers, m_moved)) H := hP
    have hres : (q4.1, q4.2) = res := (Option.some.inj hf)
    have hP := w_eq (congrArg (fun z => mw g (m_now, m_kept, m_aside, m_isKept, z.2, m_steps, m_queue, m_lives, m_treads, m_tape, m_taped, m_begins, m_ends, m_sort, m_value, m_isWrong, m_items, m_itemMany, m_seedThen, m_groundThen, m_widths, m_sizes, m_numbers, m_moved)) hres) hP
    exact W.iret (v := q4.1) hx hb hr (fun t ht hW => ⟨congrArg (fun z => Outcome.returned (some (Value.int z.1))) hres, trivial, by rw [ht]; exact hP, hS.F ht⟩) hS.2.2 dX7_status_27
  · have hf := (if_neg hc3).symm.trans hf
    refine lv_aload_n hx hb dX7_status_10 rfl (lv_at hl 0 rfl) ?_
    refine va_get (D := g.1) (ci := 5) (v := .ref (gm g 4)) (C := RX7) (T := TX7) (N := 27) hx hb hts iwX7 hown hK hP 0 k_md rfl 4 (by decide) hw1 (fun _ h9 => h9) rfl dX7_status_11 ?_
    refine lv_iload_n hx hb dX7_status_14 rfl (lv_at hl 1 rfl) ?_
    refine lv_iconst (v := (1 : Int32)) hx hb dX7_status_15 (by decide) ?_
    refine lv_iadd hx hb dX7_status_16 ?_
    obtain ⟨hg6, hf⟩ := gd_some hf
    refine va_iald (f := m_found) hx hb hK hP 4 0 k_found rfl hg6 dX7_status_17 ?_
    refine lv_goto (tgt := 27) hx hb dX7_status_18 (by decide) ?_
    have hres : ((m_found (a1 + (1 : Int32)).toNatClampNeg), m_found) = res := (Option.some.inj hf)
    have hP := w_eq (congrArg (fun z => mw g (m_now, m_kept, m_aside, m_isKept, z.2, m_steps, m_queue, m_lives, m_treads, m_tape, m_taped, m_begins, m_ends, m_sort, m_value, m_isWrong, m_items, m_itemMany, m_seedThen, m_groundThen, m_widths, m_sizes, m_numbers, m_moved)) hres) hP
    exact W.iret (v := (m_found (a1 + (1 : Int32)).toNatClampNeg)) hx hb hr (fun t ht hW => ⟨congrArg (fun z => Outcome.returned (some (Value.int z.1))) hres, trivial, by rw [ht]; exact hP, hS.F ht⟩) hS.2.2 dX7_status_27
