/-! CONTRACTS, by program -/
set_option maxHeartbeats 4000000 in
set_option maxRecDepth 100000 in
theorem ct_X7_must (l : Launch) (n : Nat) (g : GM) (m_now : Nat → Int32) (m_kept : Nat → Int32) (m_aside : Nat → Int32) (m_isKept : Int32) (m_found : Nat → Int32) (m_steps : Nat → Int32) (m_queue : Nat → Int32) (m_lives : Nat → Int32) (m_treads : Nat → Int32) (m_tape : Nat → Int32) (m_taped : Int32) (m_begins : Int32) (m_ends : Int32) (m_sort : Int32) (m_value : Int32) (m_isWrong : Int32) (m_items : Nat → Int32) (m_itemMany : Int32) (m_seedThen : Int32) (m_groundThen : Nat → Int32) (m_widths : Nat → Int32) (m_sizes : Nat → Int32) (m_numbers : Nat → Int32) (m_moved : Nat → Int32) (a1 : Int32) (res : Int32 × Int32 × Int32 × Int32 × Int32) (hf : fX7_must n a1 m_tape m_taped m_begins m_ends m_sort m_value m_isWrong = some res) : Met l yX7_must wsX7_must ({ frames := 2, cells := 0, slots := 0, locals := 45 }) (va_Pc [.ref (gm g 0), .int a1] (mI g (m_now, m_kept, m_aside, m_isKept, m_found, m_steps, m_queue, m_lives, m_treads, m_tape, m_taped, m_begins, m_ends, m_sort, m_value, m_isWrong, m_items, m_itemMany, m_seedThen, m_groundThen, m_widths, m_sizes, m_numbers, m_moved))) (qW none True g.1 (mw g (m_now, m_kept, m_aside, m_isKept, m_found, m_steps, m_queue, m_lives, m_treads, m_tape, m_taped, res.1, res.2.1, res.2.2.1, res.2.2.2.1, res.2.2.2.2, m_items, m_itemMany, m_seedThen, m_groundThen, m_widths, m_sizes, m_numbers, m_moved)) (mA g)) 0 0 (mA g) := by
  refine Met.ofW (cc := cX7_must) (maxL := 2) (ret := none) (by decide) rfl ?_
  intro p e s m args below meth c s₁ B hml hv
  obtain ⟨rfl, hI⟩ := hv
  have hx := B.exec
  have hb := B.bytes
  have hr := B.returns
  have hts := atoms_spec (ws := wsX7_must) B.pre
  have hown : s.vm.findClass RX7 = some m.cls := findClass_of_methodNamed B.named
  have hlocks := B.notSynchronized
  have hP := hI.1
  have hB := hI.2
  have hK := hB.1
  have hNW := hB.2.1
  have hS : va_S (mA g) s.heap s.heap [] := va_S.rf
  have hw0 := hts (.fieldLink RX7 319 "SownPathsModel" "isWrong" "Z") (by decide +kernel)
  have iwX7 : ∀ w ∈ wsX70, w ∈ wsX7_must := fun w h => List.mem_cons_of_mem _ (List.mem_append_right _ h)
  have hl := lv_entry ([.ref (gm g 0), .int a1]) (n := 2) (Nat.le_of_ble_eq_true rfl)
  rw [lg_entry_eq]
  generalize (lg_sl ([.ref (gm g 0), .int a1]) ++ List.replicate (2 - (lg_sl ([.ref (gm g 0), .int a1])).length) Slot.unset).toArray = ls at hl ⊢
  have hl : lv_has ls 2 [(0, .ref (gm g 0)), (1, .int a1)] := hl
  unfold fX7_must at hf
  refine lv_aload_n hx hb dX7_must_0 rfl (lv_at hl 0 rfl) ?_
  refine lv_aload_n hx hb dX7_must_1 rfl (lv_at hl 0 rfl) ?_
  refine va_get (D := g.1) (ci := 5) (v := .int m_isWrong) (C := RX7) (T := TX7) (N := 27) hx hb hts iwX7 hown hK hP 0 k_md rfl 15 (by decide) hw0 (fun _ h9 => h9) rfl dX7_must_2 ?_
  refine lv_if_ne (tgt := 12) hx hb dX7_must_5 (by decide) (fun hc1 => ?_) (fun hc1 => ?_)
  · have hf := (if_neg hc1).symm.trans hf
    refine lv_iconst (v := (1 : Int32)) hx hb dX7_must_12 (by decide) ?_
    refine lv_goto (tgt := 17) hx hb dX7_must_13 (by decide) ?_
    refine va_put (D := g.1) (ci := 5) (v := .int (1 : Int32)) (ty := .boolean) (C := RX7) (T := TX7) (N := 27) hx hb hts iwX7 tyX7 tyX7_ok nmX7 hown hK hP (mD hB.2.2.1 _) hS 0 k_md rfl 15 (by decide) hw0 (fun _ h9 => h9) rfl (tyX7_ok 15 (by decide)) rfl rfl (Nat.le_of_ble_eq_true rfl) dX7_must_17 (fun H locs hP _ hS => ?_)
    have hP : va_P g.1 vwCl (mw g (m_now, m_kept, m_aside, m_isKept, m_found, m_steps, m_queue, m_lives, m_treads, m_tape, m_taped, m_begins, m_ends, m_sort, m_value, (1 : Int32), m_items, m_itemMany, m_seedThen, m_groundThen, m_widths, m_sizes, m_numbers, m_moved)) H := w_eq (k_set_isWrong (1 : Int32)) hP
    refine lv_aload_n hx hb dX7_must_20 rfl (lv_at hl 0 rfl) ?_
    refine va_get (D := g.1) (ci := 5) (v := .int (1 : Int32)) (C := RX7) (T := TX7) (N := 27) hx hb hts iwX7 hown hK hP 0 k_md rfl 15 (by decide) hw0 (fun _ h9 => h9) rfl dX7_must_21 ?_
    refine lv_if_ne (tgt := 31) hx hb dX7_must_24 (by decide) (fun hc2 => ?_) (fun hc2 => ?_)
    · have hf := (if_neg hc2).symm.trans hf
      have hres : (m_begins, m_ends, m_sort, m_value, (1 : Int32)) = res := (Option.some.inj hf)
      have hP := w_eq (congrArg (fun z => mw g (m_now, m_kept, m_aside, m_isKept, m_found, m_steps, m_queue, m_lives, m_treads, m_tape, m_taped, z.1, z.2.1, z.2.2.1, z.2.2.2.1, z.2.2.2.2, m_items, m_itemMany, m_seedThen, m_groundThen, m_widths, m_sizes, m_numbers, m_moved)) hres) hP
      exact W.vret hx hb hr (fun t ht hW => ⟨rfl, trivial, by rw [ht]; exact hP, hS.F ht⟩) hS.2.2 dX7_must_31
    · have hf := (if_pos hc2).symm.trans hf
      refine lv_aload_n hx hb dX7_must_27 rfl (lv_at hl 0 rfl) ?_
      obtain ⟨q3, hq3, hf⟩ := bd_some hf
      refine kr_W (st1 := []) (va_runV (As := []) (rest := []) ⟨hx, hb, hml, hown, hts⟩ (ct_X7_next l n g m_now m_kept m_aside m_isKept m_found m_steps m_queue m_lives m_treads m_tape m_taped m_begins m_ends m_sort m_value (1 : Int32) m_items m_itemMany m_seedThen m_groundThen m_widths m_sizes m_numbers m_moved q3 hq3) (cwV 0 hts gX7_must_X7_next rfl rfl rfl hd_X7_next ⟨Nat.le_of_ble_eq_true rfl, Nat.le_of_ble_eq_true rfl⟩) ⟨bl_M, va_recv hK hP (ci := 5) (q0 := 0) rfl k_md, pr_M rfl hB hP hS⟩ rfl rfl hl.1 rfl (lv_room (Nat.le_of_ble_eq_true rfl)) dX7_must_28 ⟨Nat.le_refl _, Nat.le_refl _⟩) hS rfl (fun hn4 H locs hP hS => ?_)
      have hP : va_P g.1 vwCl (mw g (m_now, m_kept, m_aside, m_isKept, m_found, m_steps, m_queue, m_lives, m_treads, m_tape, m_taped, q3.1, q3.2.1, q3.2.2.1, q3.2.2.2, (1 : Int32), m_items, m_itemMany, m_seedThen, m_groundThen, m_widths, m_sizes, m_numbers, m_moved)) H := hP
      have hres : (q3.1, q3.2.1, q3.2.2.1, q3.2.2.2, (1 : Int32)) = res := (Option.some.inj hf)
      have hP := w_eq (congrArg (fun z => mw g (m_now, m_kept, m_aside, m_isKept, m_found, m_steps, m_queue, m_lives, m_treads, m_tape, m_taped, z.1, z.2.1, z.2.2.1, z.2.2.2.1, z.2.2.2.2, m_items, m_itemMany, m_seedThen, m_groundThen, m_widths, m_sizes, m_numbers, m_moved)) hres) hP
      exact W.vret hx hb hr (fun t ht hW => ⟨rfl, trivial, by rw [ht]; exact hP, hS.F ht⟩) hS.2.2 dX7_must_31
  · have hf := (if_pos hc1).symm.trans hf
    refine lv_iload_n hx hb dX7_must_8 rfl (lv_at hl 1 rfl) ?_
    refine lv_if_ne (tgt := 16) hx hb dX7_must_9 (by decide) (fun hc5 => ?_) (fun hc5 => ?_)
    · have hf := (if_neg hc5).symm.trans hf
      refine lv_iconst (v := (0 : Int32)) hx hb dX7_must_16 (by decide) ?_
      refine va_put (D := g.1) (ci := 5) (v := .int (0 : Int32)) (ty := .boolean) (C := RX7) (T := TX7) (N := 27) hx hb hts iwX7 tyX7 tyX7_ok nmX7 hown hK hP (mD hB.2.2.1 _) hS 0 k_md rfl 15 (by decide) hw0 (fun _ h9 => h9) rfl (tyX7_ok 15 (by decide)) rfl rfl (Nat.le_of_ble_eq_true rfl) dX7_must_17 (fun H locs hP _ hS => ?_)
      have hP : va_P g.1 vwCl (mw g (m_now, m_kept, m_aside, m_isKept, m_found, m_steps, m_queue, m_lives, m_treads, m_tape, m_taped, m_begins, m_ends, m_sort, m_value, (0 : Int32), m_items, m_itemMany, m_seedThen, m_groundThen, m_widths, m_sizes, m_numbers, m_moved)) H := w_eq (k_set_isWrong (0 : Int32)) hP
      refine lv_aload_n hx hb dX7_must_20 rfl (lv_at hl 0 rfl) ?_
      refine va_get (D := g.1) (ci := 5) (v := .int (0 : Int32)) (C := RX7) (T := TX7) (N := 27) hx hb hts iwX7 hown hK hP 0 k_md rfl 15 (by decide) hw0 (fun _ h9 => h9) rfl dX7_must_21 ?_
      refine lv_if_ne (tgt := 31) hx hb dX7_must_24 (by decide) (fun hc6 => ?_) (fun hc6 => ?_)
      · have hf := (if_neg hc6).symm.trans hf
        have hres : (m_begins, m_ends, m_sort, m_value, (0 : Int32)) = res := (Option.some.inj hf)
        have hP := w_eq (congrArg (fun z => mw g (m_now, m_kept, m_aside, m_isKept, m_found, m_steps, m_queue, m_lives, m_treads, m_tape, m_taped, z.1, z.2.1, z.2.2.1, z.2.2.2.1, z.2.2.2.2, m_items, m_itemMany, m_seedThen, m_groundThen, m_widths, m_sizes, m_numbers, m_moved)) hres) hP
        exact W.vret hx hb hr (fun t ht hW => ⟨rfl, trivial, by rw [ht]; exact hP, hS.F ht⟩) hS.2.2 dX7_must_31
      · have hf := (if_pos hc6).symm.trans hf
        refine lv_aload_n hx hb dX7_must_27 rfl (lv_at hl 0 rfl) ?_
        obtain ⟨q7, hq7, hf⟩ := bd_some hf
        refine kr_W (st1 := []) (va_runV (As := []) (rest := []) ⟨hx, hb, hml, hown, hts⟩ (ct_X7_next l n g m_now m_kept m_aside m_isKept m_found m_steps m_queue m_lives m_treads m_tape m_taped m_begins m_ends m_sort m_value (0 : Int32) m_items m_itemMany m_seedThen m_groundThen m_widths m_sizes m_numbers m_moved q7 hq7) (cwV 0 hts gX7_must_X7_next rfl rfl rfl hd_X7_next ⟨Nat.le_of_ble_eq_true rfl, Nat.le_of_ble_eq_true rfl⟩) ⟨bl_M, va_recv hK hP (ci := 5) (q0 := 0) rfl k_md, pr_M rfl hB hP hS⟩ rfl rfl hl.1 rfl (lv_room (Nat.le_of_ble_eq_true rfl)) dX7_must_28 ⟨Nat.le_refl _, Nat.le_refl _⟩) hS rfl (fun hn8 H locs hP hS => ?_)
        have hP : va_P g.1 vwCl (mw g (m_now, m_kept, m_aside, m_isKept, m_found, m_steps, m_queue, m_lives, m_treads, m_tape, m_taped, q7.1, q7.2.1, q7.2.2.1, q7.2.2.2, (0 : Int32), m_items, m_itemMany, m_seedThen, m_groundThen, m_widths, m_sizes, m_numbers, m_moved)) H := hP
        have hres : (q7.1, q7.2.1, q7.2.2.1, q7.2.2.2, (0 : Int32)) = res := (Option.some.inj hf)
        have hP := w_eq (congrArg (fun z => mw g (m_now, m_kept, m_aside, m_isKept, m_found, m_steps, m_queue, m_lives, m_treads, m_tape, m_taped, z.1, z.2.1, z.2.2.1, z.2.2.2.1, z.2.2.2.2, m_items, m_itemMany, m_seedThen, m_groundThen, m_widths, m_sizes, m_numbers, m_moved)) hres) hP
        exact W.vret hx hb hr (fun t ht hW => ⟨rfl, trivial, by rw [ht]; exact hP, hS.F ht⟩) hS.2.2 dX7_must_31
    · have hf := (if_pos hc5).symm.trans hf
      refine lv_iconst (v := (1 : Int32)) hx hb dX7_must_12 (by decide) ?_
      refine lv_goto (tgt := 17) hx hb dX7_must_13 (by decide) ?_
      refine va_put (D := g.1) (ci := 5) (v := .int (1 : Int32)) (ty := .boolean) (C := RX7) (T := TX7) (N := 27) hx hb hts iwX7 tyX7 tyX7_ok nmX7 hown hK hP (mD hB.2.2.1 _) hS 0 k_md rfl 15 (by decide) hw0 (fun _ h9 => h9) rfl (tyX7_ok 15 (by decide)) rfl rfl (Nat.le_of_ble_eq_true rfl) dX7_must_17 (fun H locs hP _ hS => ?_)
      have hP : va_P g.1 vwCl (mw g (m_now, m_kept, m_aside, m_isKept, m_found, m_steps, m_queue, m_lives, m_treads, m_tape, m_taped, m_begins, m_ends, m_sort, m_value, (1 : Int32), m_items, m_itemMany, m_seedThen, m_groundThen, m_widths, m_sizes, m_numbers, m_moved)) H := w_eq (k_set_isWrong (1 : Int32)) hP
      refine lv_aload_n hx hb dX7_must_20 rfl (lv_at hl 0 rfl) ?_
      refine va_get (D := g.1) (ci := 5) (v := .int (1 : Int32)) (C := RX7) (T := TX7) (N := 27) hx hb hts iwX7 hown hK hP 0 k_md rfl 15 (by decide) hw0 (fun _ h9 => h9) rfl dX7_must_21 ?_
      refine lv_if_ne (tgt := 31) hx hb dX7_must_24 (by decide) (fun hc9 => ?_) (fun hc9 => ?_)
      · have hf := (if_neg hc9).symm.trans hf
        have hres : (m_begins, m_ends, m_sort, m_value, (1 : Int32)) = res := (Option.some.inj hf)
        have hP := w_eq (congrArg (fun z => mw g (m_now, m_kept, m_aside, m_isKept, m_found, m_steps, m_queue, m_lives, m_treads, m_tape, m_taped, z.1, z.2.1, z.2.2.1, z.2.2.2.1, z.2.2.2.2, m_items, m_itemMany, m_seedThen, m_groundThen, m_widths, m_sizes, m_numbers, m_moved)) hres) hP
        exact W.vret hx hb hr (fun t ht hW => ⟨rfl, trivial, by rw [ht]; exact hP, hS.F ht⟩) hS.2.2 dX7_must_31
      · have hf := (if_pos hc9).symm.trans hf
        refine lv_aload_n hx hb dX7_must_27 rfl (lv_at hl 0 rfl) ?_
        obtain ⟨q10, hq10, hf⟩ := bd_some hf
        refine kr_W (st1 := []) (va_runV (As := []) (rest := []) ⟨hx, hb, hml, hown, hts⟩ (ct_X7_next l n g m_now m_kept m_aside m_isKept m_found m_steps m_queue m_lives m_treads m_tape m_taped m_begins m_ends m_sort m_value (1 : Int32) m_items m_itemMany m_seedThen m_groundThen m_widths m_sizes m_numbers m_moved q10 hq10) (cwV 0 hts gX7_must_X7_next rfl rfl rfl hd_X7_next ⟨Nat.le_of_ble_eq_true rfl, Nat.le_of_ble_eq_true rfl⟩) ⟨bl_M, va_recv hK hP (ci := 5) (q0 := 0) rfl k_md, pr_M rfl hB hP hS⟩ rfl rfl hl.1 rfl (lv_room (Nat.le_of_ble_eq_true rfl)) dX7_must_28 ⟨Nat.le_refl _, Nat.le_refl _⟩) hS rfl (fun hn11 H locs hP hS => ?_)
        have hP : va_P g.1 vwCl (mw g (m_now, m_kept, m_aside, m_isKept, m_found, m_steps, m_queue, m_lives, m_treads, m_tape, m_taped, q10.1, q10.2.1, q10.2.2.1, q10.2.2.2, (1 : Int32), m_items, m_itemMany, m_seedThen, m_groundThen, m_widths, m_sizes, m_numbers, m_moved)) H := hP
        have hres : (q10.1, q10.2.1, q10.2.2.1, q10.2.2.2, (1 : Int32)) = res := (Option.some.inj hf)
        have hP := w_eq (congrArg (fun z => mw g (m_now, m_kept, m_aside, m_isKept, m_found, m_steps, m_queue, m_lives, m_treads, m_tape, m_taped, z.1, z.2.1, z.2.2.1, z.2.2.2.1, z.2.2.2.2, m_items, m_itemMany, m_seedThen, m_groundThen, m_widths, m_sizes, m_numbers, m_moved)) hres) hP
        exact W.vret hx hb hr (fun t ht hW => ⟨rfl, trivial, by rw [ht]; exact hP, hS.F ht⟩) hS.2.2 dX7_must_31
set_option maxHeartbeats 4000000 in
set_option maxRecDepth 100000 in
theorem ct_X7_number (l : Launch) (n : Nat) (g : GM) (m_now : Nat → Int32) (m_kept : Nat → Int32) (m_aside : Nat → Int32) (m_isKept : Int32) (m_found : Nat → Int32) (m_steps : Nat → Int32) (m_queue : Nat → Int32) (m_lives : Nat → Int32) (m_treads : Nat → Int32) (m_tape : Nat → Int32) (m_taped : Int32) (m_begins : Int32) (m_ends : Int32) (m_sort : Int32) (m_value : Int32) (m_isWrong : Int32) (m_items : Nat → Int32) (m_itemMany : Int32) (m_seedThen : Int32) (m_groundThen : Nat → Int32) (m_widths : Nat → Int32) (m_sizes : Nat → Int32) (m_numbers : Nat → Int32) (m_moved : Nat → Int32) (a1 : Int32) (a2 : Int32) (res : Int32 × Int32 × Int32 × Int32 × Int32 × Int32) (hf : fX7_number n a1 a2 m_tape m_taped m_begins m_ends m_sort m_value m_isWrong = some res) : Met l yX7_number wsX7_number ({ frames := 3, cells := 0, slots := 0, locals := 66 }) (va_Pc [.ref (gm g 0), .int a1, .int a2] (mI g (m_now, m_kept, m_aside, m_isKept, m_found, m_steps, m_queue, m_lives, m_treads, m_tape, m_taped, m_begins, m_ends, m_sort, m_value, m_isWrong, m_items, m_itemMany, m_seedThen, m_groundThen, m_widths, m_sizes, m_numbers, m_moved))) (qW (some (.int res.1)) True g.1 (mw g (m_now, m_kept, m_aside, m_isKept, m_found, m_steps, m_queue, m_lives, m_treads, m_tape, m_taped, res.2.1, res.2.2.1, res.2.2.2.1, res.2.2.2.2.1, res.2.2.2.2.2, m_items, m_itemMany, m_seedThen, m_groundThen, m_widths, m_sizes, m_numbers, m_moved)) (mA g)) 0 0 (mA g) := by
  refine Met.ofW (cc := cX7_number) (maxL := 4) (ret := (some .int)) (by decide) rfl ?_
  intro p e s m args below meth c s₁ B hml hv
  obtain ⟨rfl, hI⟩ := hv
  have hx := B.exec
  have hb := B.bytes
  have hr := B.returns
  have hts := atoms_spec (ws := wsX7_number) B.pre
  have hown : s.vm.findClass RX7 = some m.cls := findClass_of_methodNamed B.named
  have hlocks := B.notSynchronized
  have hP := hI.1
  have hB := hI.2
  have hK := hB.1
  have hNW := hB.2.1
  have hS : va_S (mA g) s.heap s.heap [] := va_S.rf
  have hw0 := hts (.fieldLink RX7 306 "SownPathsModel" "value" "I") (by decide +kernel)
  have hw1 := hts (.fieldLink RX7 309 "SownPathsModel" "sort" "I") (by decide +kernel)
  have iwX7 : ∀ w ∈ wsX70, w ∈ wsX7_number := fun w h => List.mem_cons_of_mem _ (List.mem_append_right _ h)
  have hl := lv_entry ([.ref (gm g 0), .int a1, .int a2]) (n := 4) (Nat.le_of_ble_eq_true rfl)
  rw [lg_entry_eq]
  generalize (lg_sl ([.ref (gm g 0), .int a1, .int a2]) ++ List.replicate (4 - (lg_sl ([.ref (gm g 0), .int a1, .int a2])).length) Slot.unset).toArray = ls at hl ⊢
  have hl : lv_has ls 4 [(0, .ref (gm g 0)), (1, .int a1), (2, .int a2)] := hl
  unfold fX7_number at hf
  refine lv_aload_n hx hb dX7_number_0 rfl (lv_at hl 0 rfl) ?_
  refine va_get (D := g.1) (ci := 5) (v := .int m_value) (C := RX7) (T := TX7) (N := 27) hx hb hts iwX7 hown hK hP 0 k_md rfl 14 (by decide) hw0 (fun _ h9 => h9) rfl dX7_number_1 ?_
  refine lv_istore_n (lv' := [(3, .int m_value), (0, .ref (gm g 0)), (1, .int a1), (2, .int a2)]) hx hb dX7_number_4 rfl hl (by decide) rfl (fun ls hl => ?_)
  refine lv_aload_n hx hb dX7_number_5 rfl (lv_at hl 1 rfl) ?_
  refine lv_aload_n hx hb dX7_number_6 rfl (lv_at hl 1 rfl) ?_
  refine va_get (D := g.1) (ci := 5) (v := .int m_sort) (C := RX7) (T := TX7) (N := 27) hx hb hts iwX7 hown hK hP 0 k_md rfl 13 (by decide) hw1 (fun _ h9 => h9) rfl dX7_number_7 ?_
  refine lv_iconst (v := (2 : Int32)) hx hb dX7_number_10 (by decide) ?_
  refine lv_icmp_ne (tgt := 27) hx hb dX7_number_11 (by decide) (fun hc1 => ?_) (fun hc1 => ?_)
  · have hf := (if_neg hc1).symm.trans hf
    refine lv_iconst (v := (0 : Int32)) hx hb dX7_number_27 (by decide) ?_
    obtain ⟨q2, hq2, hf⟩ := bd_some hf
    refine kr_W (st1 := []) (va_runV (As := [.int (0 : Int32)]) (rest := []) ⟨hx, hb, hml, hown, hts⟩ (ct_X7_must l n g m_now m_kept m_aside m_isKept m_found m_steps m_queue m_lives m_treads m_tape m_taped m_begins m_ends m_sort m_value m_isWrong m_items m_itemMany m_seedThen m_groundThen m_widths m_sizes m_numbers m_moved (0 : Int32) q2 hq2) (cwV 1 hts gX7_number_X7_must rfl rfl rfl hd_X7_must ⟨Nat.le_of_ble_eq_true rfl, Nat.le_of_ble_eq_true rfl⟩) ⟨bl_M, va_recv hK hP (ci := 5) (q0 := 0) rfl k_md, pr_M rfl hB hP hS⟩ rfl rfl hl.1 rfl (lv_room (Nat.le_of_ble_eq_true rfl)) dX7_number_28 ⟨Nat.le_refl _, Nat.le_refl _⟩) hS rfl (fun hn3 H locs hP hS => ?_)
    have hP : va_P g.1 vwCl (mw g (m_now, m_kept, m_aside, m_isKept, m_found, m_steps, m_queue, m_lives, m_treads, m_tape, m_taped, q2.1, q2.2.1, q2.2.2.1, q2.2.2.2.1, q2.2.2.2.2, m_items, m_itemMany, m_seedThen, m_groundThen, m_widths, m_sizes, m_numbers, m_moved)) H := hP
    refine lv_iload_n hx hb dX7_number_31 rfl (lv_at hl 0 rfl) ?_
    have hres : (m_value, q2.1, q2.2.1, q2.2.2.1, q2.2.2.2.1, q2.2.2.2.2) = res := (Option.some.inj hf)
    have hP := w_eq (congrArg (fun z => mw g (m_now, m_kept, m_aside, m_isKept, m_found, m_steps, m_queue, m_lives, m_treads, m_tape, m_taped, z.2.1, z.2.2.1, z.2.2.2.1, z.2.2.2.2.1, z.2.2.2.2.2, m_items, m_itemMany, m_seedThen, m_groundThen, m_widths, m_sizes, m_numbers, m_moved)) hres) hP
    exact W.iret (v := m_value) hx hb hr (fun t ht hW => ⟨congrArg (fun z => Outcome.returned (some (Value.int z.1))) hres, trivial, by rw [ht]; exact hP, hS.F ht⟩) hS.2.2 dX7_number_32
  · have hf := (if_pos hc1).symm.trans hf
    refine lv_iload_n hx hb dX7_number_14 rfl (lv_at hl 0 rfl) ?_
    refine lv_iload_n hx hb dX7_number_15 rfl (lv_at hl 2 rfl) ?_
    refine lv_iload_n hx hb dX7_number_16 rfl (lv_at hl 3 rfl) ?_
    obtain ⟨q4, hq4, hf⟩ := bd_some hf
    refine kr_S (st1 := [.int q4, .ref (gm g 0)]) (va_runS (As := [.int m_value, .int a1, .int a2]) (rest := [.ref (gm g 0)]) ⟨hx, hb, hml, hown, hts⟩ (ct_X7_within l n m_value a1 a2 q4 hq4) (va_cwS 3 hts gX7_number_X7_within rfl rfl rfl hn_X7_within ⟨Nat.le_of_ble_eq_true rfl, Nat.le_of_ble_eq_true rfl⟩) ⟨bl_N, pr_N rfl hNW⟩ rfl rfl hl.1 rfl (lv_room (Nat.le_of_ble_eq_true rfl)) dX7_number_17 ⟨Nat.le_refl _, Nat.le_refl _⟩) rfl (fun hn5 => ?_)
    refine lv_if_eq (tgt := 27) hx hb dX7_number_20 (by decide) (fun hc6 => ?_) (fun hc6 => ?_)
    · have hf := (if_pos hc6).symm.trans hf
      refine lv_iconst (v := (0 : Int32)) hx hb dX7_number_27 (by decide) ?_
      obtain ⟨q7, hq7, hf⟩ := bd_some hf
      refine kr_W (st1 := []) (va_runV (As := [.int (0 : Int32)]) (rest := []) ⟨hx, hb, hml, hown, hts⟩ (ct_X7_must l n g m_now m_kept m_aside m_isKept m_found m_steps m_queue m_lives m_treads m_tape m_taped m_begins m_ends m_sort m_value m_isWrong m_items m_itemMany m_seedThen m_groundThen m_widths m_sizes m_numbers m_moved (0 : Int32) q7 hq7) (cwV 1 hts gX7_number_X7_must rfl rfl rfl hd_X7_must ⟨Nat.le_of_ble_eq_true rfl, Nat.le_of_ble_eq_true rfl⟩) ⟨bl_M, va_recv hK hP (ci := 5) (q0 := 0) rfl k_md, pr_M rfl hB hP hS⟩ rfl rfl hl.1 rfl (lv_room (Nat.le_of_ble_eq_true rfl)) dX7_number_28 ⟨Nat.le_refl _, Nat.le_refl _⟩) hS rfl (fun hn8 H locs hP hS => ?_)
      have hP : va_P g.1 vwCl (mw g (m_now, m_kept, m_aside, m_isKept, m_found, m_steps, m_queue, m_lives, m_treads, m_tape, m_taped, q7.1, q7.2.1, q7.2.2.1, q7.2.2.2.1, q7.2.2.2.2, m_items, m_itemMany, m_seedThen, m_groundThen, m_widths, m_sizes, m_numbers, m_moved)) H := hP
      refine lv_iload_n hx hb dX7_number_31 rfl (lv_at hl 0 rfl) ?_
      have hres : (m_value, q7.1, q7.2.1, q7.2.2.1, q7.2.2.2.1, q7.2.2.2.2) = res := (Option.some.inj hf)
      have hP := w_eq (congrArg (fun z => mw g (m_now, m_kept, m_aside, m_isKept, m_found, m_steps, m_queue, m_lives, m_treads, m_tape, m_taped, z.2.1, z.2.2.1, z.2.2.2.1, z.2.2.2.2.1, z.2.2.2.2.2, m_items, m_itemMany, m_seedThen, m_groundThen, m_widths, m_sizes, m_numbers, m_moved)) hres) hP
      exact W.iret (v := m_value) hx hb hr (fun t ht hW => ⟨congrArg (fun z => Outcome.returned (some (Value.int z.1))) hres, trivial, by rw [ht]; exact hP, hS.F ht⟩) hS.2.2 dX7_number_32
    · have hf := (if_neg hc6).symm.trans hf
      refine lv_iconst (v := (1 : Int32)) hx hb dX7_number_23 (by decide) ?_
      refine lv_goto (tgt := 28) hx hb dX7_number_24 (by decide) ?_
      obtain ⟨q9, hq9, hf⟩ := bd_some hf
      refine kr_W (st1 := []) (va_runV (As := [.int (1 : Int32)]) (rest := []) ⟨hx, hb, hml, hown, hts⟩ (ct_X7_must l n g m_now m_kept m_aside m_isKept m_found m_steps m_queue m_lives m_treads m_tape m_taped m_begins m_ends m_sort m_value m_isWrong m_items m_itemMany m_seedThen m_groundThen m_widths m_sizes m_numbers m_moved (1 : Int32) q9 hq9) (cwV 1 hts gX7_number_X7_must rfl rfl rfl hd_X7_must ⟨Nat.le_of_ble_eq_true rfl, Nat.le_of_ble_eq_true rfl⟩) ⟨bl_M, va_recv hK hP (ci := 5) (q0 := 0) rfl k_md, pr_M rfl hB hP hS⟩ rfl rfl hl.1 rfl (lv_room (Nat.le_of_ble_eq_true rfl)) dX7_number_28 ⟨Nat.le_refl _, Nat.le_refl _⟩) hS rfl (fun hn10 H locs hP hS => ?_)
      have hP : va_P g.1 vwCl (mw g (m_now, m_kept, m_aside, m_isKept, m_found, m_steps, m_queue, m_lives, m_treads, m_tape, m_taped, q9.1, q9.2.1, q9.2.2.1, q9.2.2.2.1, q9.2.2.2.2, m_items, m_itemMany, m_seedThen, m_groundThen, m_widths, m_sizes, m_numbers, m_moved)) H := hP
      refine lv_iload_n hx hb dX7_number_31 rfl (lv_at hl 0 rfl) ?_
      have hres : (m_value, q9.1, q9.2.1, q9.2.2.1, q9.2.2.2.1, q9.2.2.2.2) = res := (Option.some.inj hf)
      have hP := w_eq (congrArg (fun z => mw g (m_now, m_kept, m_aside, m_isKept, m_found, m_steps, m_queue, m_lives, m_treads, m_tape, m_taped, z.2.1, z.2.2.1, z.2.2.2.1, z.2.2.2.2.1, z.2.2.2.2.2, m_items, m_itemMany, m_seedThen, m_groundThen, m_widths, m_sizes, m_numbers, m_moved)) hres) hP
      exact W.iret (v := m_value) hx hb hr (fun t ht hW => ⟨congrArg (fun z => Outcome.returned (some (Value.int z.1))) hres, trivial, by rw [ht]; exact hP, hS.F ht⟩) hS.2.2 dX7_number_32
set_option maxHeartbeats 4000000 in
set_option maxRecDepth 100000 in
theorem ct_X7_item (l : Launch) (n : Nat) (g : GM) (m_now : Nat → Int32) (m_kept : Nat → Int32) (m_aside : Nat → Int32) (m_isKept : Int32) (m_found : Nat → Int32) (m_steps : Nat → Int32) (m_queue : Nat → Int32) (m_lives : Nat → Int32) (m_treads : Nat → Int32) (m_tape : Nat → Int32) (m_taped : Int32) (m_begins : Int32) (m_ends : Int32) (m_sort : Int32) (m_value : Int32) (m_isWrong : Int32) (m_items : Nat → Int32) (m_itemMany : Int32) (m_seedThen : Int32) (m_groundThen : Nat → Int32) (m_widths : Nat → Int32) (m_sizes : Nat → Int32) (m_numbers : Nat → Int32) (m_moved : Nat → Int32) (a1 : Int32) (a2 : Int32) (a3 : Int32) (a4 : Int32) (res : (Nat → Int32) × Int32) (hf : fX7_item n a1 a2 a3 a4 m_items m_itemMany = some res) : Met l yX7_item wsX7_item ({ frames := 0, cells := 0, slots := 0, locals := 0 }) (va_Pc [.ref (gm g 0), .int a1, .int a2, .int a3, .int a4] (mI g (m_now, m_kept, m_aside, m_isKept, m_found, m_steps, m_queue, m_lives, m_treads, m_tape, m_taped, m_begins, m_ends, m_sort, m_value, m_isWrong, m_items, m_itemMany, m_seedThen, m_groundThen, m_widths, m_sizes, m_numbers, m_moved))) (qW none True g.1 (mw g (m_now, m_kept, m_aside, m_isKept, m_found, m_steps, m_queue, m_lives, m_treads, m_tape, m_taped, m_begins, m_ends, m_sort, m_value, m_isWrong, res.1, res.2, m_seedThen, m_groundThen, m_widths, m_sizes, m_numbers, m_moved)) (mA g)) 0 0 (mA g) := by
  refine Met.ofW (cc := cX7_item) (maxL := 6) (ret := none) (by decide) rfl ?_
  intro p e s m args below meth c s₁ B hml hv
  obtain ⟨rfl, hI⟩ := hv
  have hx := B.exec
  have hb := B.bytes
  have hr := B.returns
  have hts := atoms_spec (ws := wsX7_item) B.pre
  have hown : s.vm.findClass RX7 = some m.cls := findClass_of_methodNamed B.named
  have hlocks := B.notSynchronized
  have hP := hI.1
  have hB := hI.2
  have hK := hB.1
  have hNW := hB.2.1
  have hS : va_S (mA g) s.heap s.heap [] := va_S.rf
  have hw0 := hts (.fieldLink RX7 330 "SownPathsModel" "itemMany" "I") (by decide +kernel)
  have hw1 := hts (.fieldLink RX7 77 "SownPathsModel" "items" "[I") (by decide +kernel)
  have iwX7 : ∀ w ∈ wsX70, w ∈ wsX7_item := fun w h => List.mem_cons_of_mem _ (List.mem_append_right _ h)
  have hl := lv_entry ([.ref (gm g 0), .int a1, .int a2, .int a3, .int a4]) (n := 6) (Nat.le_of_ble_eq_true rfl)
  rw [lg_entry_eq]
  generalize (lg_sl ([.ref (gm g 0), .int a1, .int a2, .int a3, .int a4]) ++ List.replicate (6 - (lg_sl ([.ref (gm g 0), .int a1, .int a2, .int a3, .int a4])).length) Slot.unset).toArray = ls at hl ⊢
  have hl : lv_has ls 6 [(0, .ref (gm g 0)), (1, .int a1), (2, .int a2), (3, .int a3), (4, .int a4)] := hl
  unfold fX7_item at hf
  refine lv_iconst (v := (4 : Int32)) hx hb dX7_item_0 (by decide) ?_
  refine lv_aload_n hx hb dX7_item_1 rfl (lv_at hl 0 rfl) ?_
  refine va_get (D := g.1) (ci := 5) (v := .int m_itemMany) (C := RX7) (T := TX7) (N := 27) hx hb hts iwX7 hown hK hP 0 k_md rfl 20 (by decide) hw0 (fun _ h9 => h9) rfl dX7_item_2 ?_
  refine lv_imul hx hb dX7_item_5 ?_
  refine lv_istore (lv' := [(5, .int ((4 : Int32) * m_itemMany)), (0, .ref (gm g 0)), (1, .int a1), (2, .int a2), (3, .int a3), (4, .int a4)]) hx hb dX7_item_6 hl (by decide) rfl (fun ls hl => ?_)
  refine lv_aload_n hx hb dX7_item_8 rfl (lv_at hl 1 rfl) ?_
  refine va_get (D := g.1) (ci := 5) (v := .ref (gm g 13)) (C := RX7) (T := TX7) (N := 27) hx hb hts iwX7 hown hK hP 0 k_md rfl 19 (by decide) hw1 (fun _ h9 => h9) rfl dX7_item_9 ?_
  refine lv_iload hx hb dX7_item_12 (lv_at hl 0 rfl) ?_
  refine lv_iload_n hx hb dX7_item_14 rfl (lv_at hl 2 rfl) ?_
  obtain ⟨hg1, hf⟩ := gd_some hf
  refine va_iast (f := m_items) hx hb hK hP (mD hB.2.2.1 _) hS 13 0 k_items rfl hg1 dX7_item_15 (fun H locs hP _ hS => ?_)
  have hP : va_P g.1 vwCl (mw g (m_now, m_kept, m_aside, m_isKept, m_found, m_steps, m_queue, m_lives, m_treads, m_tape, m_taped, m_begins, m_ends, m_sort, m_value, m_isWrong, (upd m_items ((4 : Int32) * m_itemMany).toNatClampNeg a1), m_itemMany, m_seedThen, m_groundThen, m_widths, m_sizes, m_numbers, m_moved)) H := w_eq (k_set_items (upd m_items ((4 : Int32) * m_itemMany).toNatClampNeg a1)) hP
  refine lv_aload_n hx hb dX7_item_16 rfl (lv_at hl 1 rfl) ?_
  refine va_get (D := g.1) (ci := 5) (v := .ref (gm g 13)) (C := RX7) (T := TX7) (N := 27) hx hb hts iwX7 hown hK hP 0 k_md rfl 19 (by decide) hw1 (fun _ h9 => h9) rfl dX7_item_17 ?_
  refine lv_iload hx hb dX7_item_20 (lv_at hl 0 rfl) ?_
  refine lv_iconst (v := (1 : Int32)) hx hb dX7_item_22 (by decide) ?_
  refine lv_iadd hx hb dX7_item_23 ?_
  refine lv_iload_n hx hb dX7_item_24 rfl (lv_at hl 3 rfl) ?_
  obtain ⟨hg2, hf⟩ := gd_some hf
  refine va_iast (f := (upd m_items ((4 : Int32) * m_itemMany).toNatClampNeg a1)) hx hb hK hP (mD hB.2.2.1 _) hS 13 0 k_items rfl hg2 dX7_item_25 (fun H locs hP _ hS => ?_)
  have hP : va_P g.1 vwCl (mw g (m_now, m_kept, m_aside, m_isKept, m_found, m_steps, m_queue, m_lives, m_treads, m_tape, m_taped, m_begins, m_ends, m_sort, m_value, m_isWrong, (upd (upd m_items ((4 : Int32) * m_itemMany).toNatClampNeg a1) (((4 : Int32) * m_itemMany) + (1 : Int32)).toNatClampNeg a2), m_itemMany, m_seedThen, m_groundThen, m_widths, m_sizes, m_numbers, m_moved)) H := w_eq (k_set_items (upd (upd m_items ((4 : Int32) * m_itemMany).toNatClampNeg a1) (((4 : Int32) * m_itemMany) + (1 : Int32)).toNatClampNeg a2)) hP
  refine lv_aload_n hx hb dX7_item_26 rfl (lv_at hl 1 rfl) ?_
  refine va_get (D := g.1) (ci := 5) (v := .ref (gm g 13)) (C := RX7) (T := TX7) (N := 27) hx hb hts iwX7 hown hK hP 0 k_md rfl 19 (by decide) hw1 (fun _ h9 => h9) rfl dX7_item_27 ?_
  refine lv_iload hx hb dX7_item_30 (lv_at hl 0 rfl) ?_
  refine lv_iconst (v := (2 : Int32)) hx hb dX7_item_32 (by decide) ?_
  refine lv_iadd hx hb dX7_item_33 ?_
  refine lv_iload_n hx hb dX7_item_34 rfl (lv_at hl 4 rfl) ?_
  obtain ⟨hg3, hf⟩ := gd_some hf
  refine va_iast (f := (upd (upd m_items ((4 : Int32) * m_itemMany).toNatClampNeg a1) (((4 : Int32) * m_itemMany) + (1 : Int32)).toNatClampNeg a2)) hx hb hK hP (mD hB.2.2.1 _) hS 13 0 k_items rfl hg3 dX7_item_35 (fun H locs hP _ hS => ?_)
  have hP : va_P g.1 vwCl (mw g (m_now, m_kept, m_aside, m_isKept, m_found, m_steps, m_queue, m_lives, m_treads, m_tape, m_taped, m_begins, m_ends, m_sort, m_value, m_isWrong, (upd (upd (upd m_items ((4 : Int32) * m_itemMany).toNatClampNeg a1) (((4 : Int32) * m_itemMany) + (1 : Int32)).toNatClampNeg a2) (((4 : Int32) * m_itemMany) + (2 : Int32)).toNatClampNeg a3), m_itemMany, m_seedThen, m_groundThen, m_widths, m_sizes, m_numbers, m_moved)) H := w_eq (k_set_items (upd (upd (upd m_items ((4 : Int32) * m_itemMany).toNatClampNeg a1) (((4 : Int32) * m_itemMany) + (1 : Int32)).toNatClampNeg a2) (((4 : Int32) * m_itemMany) + (2 : Int32)).toNatClampNeg a3)) hP
  refine lv_aload_n hx hb dX7_item_36 rfl (lv_at hl 1 rfl) ?_
  refine va_get (D := g.1) (ci := 5) (v := .ref (gm g 13)) (C := RX7) (T := TX7) (N := 27) hx hb hts iwX7 hown hK hP 0 k_md rfl 19 (by decide) hw1 (fun _ h9 => h9) rfl dX7_item_37 ?_
  refine lv_iload hx hb dX7_item_40 (lv_at hl 0 rfl) ?_
  refine lv_iconst (v := (3 : Int32)) hx hb dX7_item_42 (by decide) ?_
  refine lv_iadd hx hb dX7_item_43 ?_
  refine lv_iload hx hb dX7_item_44 (lv_at hl 5 rfl) ?_
  obtain ⟨hg4, hf⟩ := gd_some hf
  refine va_iast (f := (upd (upd (upd m_items ((4 : Int32) * m_itemMany).toNatClampNeg a1) (((4 : Int32) * m_itemMany) + (1 : Int32)).toNatClampNeg a2) (((4 : Int32) * m_itemMany) + (2 : Int32)).toNatClampNeg a3)) hx hb hK hP (mD hB.2.2.1 _) hS 13 0 k_items rfl hg4 dX7_item_46 (fun H locs hP _ hS => ?_)
  have hP : va_P g.1 vwCl (mw g (m_now, m_kept, m_aside, m_isKept, m_found, m_steps, m_queue, m_lives, m_treads, m_tape, m_taped, m_begins, m_ends, m_sort, m_value, m_isWrong, (upd (upd (upd (upd m_items ((4 : Int32) * m_itemMany).toNatClampNeg a1) (((4 : Int32) * m_itemMany) + (1 : Int32)).toNatClampNeg a2) (((4 : Int32) * m_itemMany) + (2 : Int32)).toNatClampNeg a3) (((4 : Int32) * m_itemMany) + (3 : Int32)).toNatClampNeg a4), m_itemMany, m_seedThen, m_groundThen, m_widths, m_sizes, m_numbers, m_moved)) H := w_eq (k_set_items (upd (upd (upd (upd m_items ((4 : Int32) * m_itemMany).toNatClampNeg a1) (((4 : Int32) * m_itemMany) + (1 : Int32)).toNatClampNeg a2) (((4 : Int32) * m_itemMany) + (2 : Int32)).toNatClampNeg a3) (((4 : Int32) * m_itemMany) + (3 : Int32)).toNatClampNeg a4)) hP
  refine lv_aload_n hx hb dX7_item_47 rfl (lv_at hl 1 rfl) ?_
  refine lv_dup hx hb dX7_item_48 rfl ?_
  refine va_get (D := g.1) (ci := 5) (v := .int m_itemMany) (C := RX7) (T := TX7) (N := 27) hx hb hts iwX7 hown hK hP 0 k_md rfl 20 (by decide) hw0 (fun _ h9 => h9) rfl dX7_item_49 ?_
  refine lv_iconst (v := (1 : Int32)) hx hb dX7_item_52 (by decide) ?_
  refine lv_iadd hx hb dX7_item_53 ?_
  refine va_put (D := g.1) (ci := 5) (v := .int (m_itemMany + (1 : Int32))) (ty := .int) (C := RX7) (T := TX7) (N := 27) hx hb hts iwX7 tyX7 tyX7_ok nmX7 hown hK hP (mD hB.2.2.1 _) hS 0 k_md rfl 20 (by decide) hw0 (fun _ h9 => h9) rfl (tyX7_ok 20 (by decide)) rfl rfl (Nat.le_of_ble_eq_true rfl) dX7_item_54 (fun H locs hP _ hS => ?_)
  have hP : va_P g.1 vwCl (mw g (m_now, m_kept, m_aside, m_isKept, m_found, m_steps, m_queue, m_lives, m_treads, m_tape, m_taped, m_begins, m_ends, m_sort, m_value, m_isWrong, (upd (upd (upd (upd m_items ((4 : Int32) * m_itemMany).toNatClampNeg a1) (((4 : Int32) * m_itemMany) + (1 : Int32)).toNatClampNeg a2) (((4 : Int32) * m_itemMany) + (2 : Int32)).toNatClampNeg a3) (((4 : Int32) * m_itemMany) + (3 : Int32)).toNatClampNeg a4), (m_itemMany + (1 : Int32)), m_seedThen, m_groundThen, m_widths, m_sizes, m_numbers, m_moved)) H := w_eq (k_set_itemMany (m_itemMany + (1 : Int32))) hP
  have hres : ((upd (upd (upd (upd m_items ((4 : Int32) * m_itemMany).toNatClampNeg a1) (((4 : Int32) * m_itemMany) + (1 : Int32)).toNatClampNeg a2) (((4 : Int32) * m_itemMany) + (2 : Int32)).toNatClampNeg a3) (((4 : Int32) * m_itemMany) + (3 : Int32)).toNatClampNeg a4), (m_itemMany + (1 : Int32))) = res := (Option.some.inj hf)
  have hP := w_eq (congrArg (fun z => mw g (m_now, m_kept, m_aside, m_isKept, m_found, m_steps, m_queue, m_lives, m_treads, m_tape, m_taped, m_begins, m_ends, m_sort, m_value, m_isWrong, z.1, z.2, m_seedThen, m_groundThen, m_widths, m_sizes, m_numbers, m_moved)) hres) hP
  exact W.vret hx hb hr (fun t ht hW => ⟨rfl, trivial, by rw [ht]; exact hP, hS.F ht⟩) hS.2.2 dX7_item_57
set_option maxHeartbeats 4000000 in
set_option maxRecDepth 100000 in
theorem ct_X7_wordOf (l : Launch) (n : Nat) (g : GM) (m_now : Nat → Int32) (m_kept : Nat → Int32) (m_aside : Nat → Int32) (m_isKept : Int32) (m_found : Nat → Int32) (m_steps : Nat → Int32) (m_queue : Nat → Int32) (m_lives : Nat → Int32) (m_treads : Nat → Int32) (m_tape : Nat → Int32) (m_taped : Int32) (m_begins : Int32) (m_ends : Int32) (m_sort : Int32) (m_value : Int32) (m_isWrong : Int32) (m_items : Nat → Int32) (m_itemMany : Int32) (m_seedThen : Int32) (m_groundThen : Nat → Int32) (m_widths : Nat → Int32) (m_sizes : Nat → Int32) (m_numbers : Nat → Int32) (m_moved : Nat → Int32) (q : Nat) (base : Nat) (nn : Nat) (hq : ∀ μ, (mw g μ)[q]? = some (gm g q, mSA g base nn)) (hbs : base + nn ≤ 16) (res : Int32) (hf : fX7_wordOf n base nn m_tape m_begins m_ends m_sort m_isWrong = some res) : Met l yX7_wordOf wsX7_wordOf ({ frames := 6, cells := 0, slots := 0, locals := 164 }) (va_Pc [.ref (gm g 0), .ref (gm g q)] (mI g (m_now, m_kept, m_aside, m_isKept, m_found, m_steps, m_queue, m_lives, m_treads, m_tape, m_taped, m_begins, m_ends, m_sort, m_value, m_isWrong, m_items, m_itemMany, m_seedThen, m_groundThen, m_widths, m_sizes, m_numbers, m_moved))) (qS (some (.int res)) True) 0 0 (fun _ => False) := by
  refine Met.ofW (cc := cX7_wordOf) (maxL := 4) (ret := (some .int)) (by decide) rfl ?_
  intro p e s m args below meth c s₁ B hml hv
  obtain ⟨rfl, hI⟩ := hv
  have hx := B.exec
  have hb := B.bytes
  have hr := B.returns
  have hts := atoms_spec (ws := wsX7_wordOf) B.pre
  have hown : s.vm.findClass RX7 = some m.cls := findClass_of_methodNamed B.named
  have hlocks := B.notSynchronized
  have hP := hI.1
  have hB := hI.2
  have hK := hB.1
  have hNW := hB.2.1
  have hS : va_S (mA g) s.heap s.heap [] := va_S.rf
  have hw0 := hts (.fieldLink RX7 319 "SownPathsModel" "isWrong" "Z") (by decide +kernel)
  have iwX7 : ∀ w ∈ wsX70, w ∈ wsX7_wordOf := fun w h => List.mem_cons_of_mem _ (List.mem_append_right _ h)
  have hl := lv_entry ([.ref (gm g 0), .ref (gm g q)]) (n := 4) (Nat.le_of_ble_eq_true rfl)
  rw [lg_entry_eq]
  generalize (lg_sl ([.ref (gm g 0), .ref (gm g q)]) ++ List.replicate (4 - (lg_sl ([.ref (gm g 0), .ref (gm g q)])).length) Slot.unset).toArray = ls at hl ⊢
  have hl : lv_has ls 4 [(0, .ref (gm g 0)), (1, .ref (gm g q))] := hl
  unfold fX7_wordOf at hf
  refine lv_iconst (v := (-1 : Int32)) hx hb dX7_wordOf_0 (by decide) ?_
  refine lv_istore_n (lv' := [(2, .int (-1 : Int32)), (0, .ref (gm g 0)), (1, .ref (gm g q))]) hx hb dX7_wordOf_1 rfl hl (by decide) rfl (fun ls hl => ?_)
  refine lv_iconst (v := (0 : Int32)) hx hb dX7_wordOf_2 (by decide) ?_
  refine lv_istore_n (lv' := [(3, .int (0 : Int32)), (2, .int (-1 : Int32)), (0, .ref (gm g 0)), (1, .ref (gm g q))]) hx hb dX7_wordOf_3 rfl hl (by decide) rfl (fun ls hl => ?_)
  refine lp_run hf (fun s1 => ∀ (ls : Array Slot), lv_has ls 4 [(0, .ref (gm g 0)), (1, .ref (gm g q)), (2, .int s1.1), (3, .int s1.2)] → W p l e (headSpec wsX7_wordOf ({ frames := 6, cells := 0, slots := 0, locals := 164 })).room s m ([.ref (gm g 0), .ref (gm g q)] : List Value).toArray below meth c s.heap [] 0 0 (MQ below (qS (some (.int res)) True) ([.ref (gm g 0), .ref (gm g q)] : List Value).toArray s 0 0 (fun _ => False)) (F0 m 4 ls [])) (fun v2 => ∀ (ls : Array Slot), lv_has ls 4 [(2, .int v2.1)] → W p l e (headSpec wsX7_wordOf ({ frames := 6, cells := 0, slots := 0, locals := 164 })).room s m ([.ref (gm g 0), .ref (gm g q)] : List Value).toArray below meth c s.heap [] 0 0 (MQ below (qS (some (.int res)) True) ([.ref (gm g 0), .ref (gm g q)] : List Value).toArray s 0 0 (fun _ => False)) (F0 m 39 ls [])) ?_ ?_ _ (lv_sub hl [2, 3, 1, 0] rfl)
  · intro v2 hf ls hl
    refine lv_iload_n hx hb dX7_wordOf_39 rfl (lv_at hl 0 rfl) ?_
    have hres : v2.1 = res := (Option.some.inj hf)
    exact W.iret (v := v2.1) hx hb hr (fun t ht hW => ⟨congrArg (fun z => Outcome.returned (some (Value.int z))) hres, trivial, ht⟩) t_nil dX7_wordOf_40
  · intro s1 r1 hf hback1 hexit1 ls hl
    refine lv_iload_n hx hb dX7_wordOf_4 rfl (lv_at hl 3 rfl) ?_
    refine lv_aload_n hx hb dX7_wordOf_5 rfl (lv_at hl 1 rfl) ?_
    refine va_alen (v := (nI nn)) hx hb hK hP q 1 (hq _) rfl rfl dX7_wordOf_6 ?_
    refine lv_icmp_ge (tgt := 39) hx hb dX7_wordOf_7 (by decide) (fun hc3 => ?_) (fun hc3 => ?_)
    · have hf := (if_pos hc3).symm.trans hf
      exact hexit1 (s1.1, s1.2) (Option.some.inj hf).symm ls (lv_sub hl [2] rfl)
    · have hf := (if_neg hc3).symm.trans hf
      refine lv_aload_n hx hb dX7_wordOf_10 rfl (lv_at hl 0 rfl) ?_
      refine va_get (D := g.1) (ci := 5) (v := .int m_isWrong) (C := RX7) (T := TX7) (N := 27) hx hb hts iwX7 hown hK hP 0 k_md rfl 15 (by decide) hw0 (fun _ h9 => h9) rfl dX7_wordOf_11 ?_
      refine lv_if_ne (tgt := 39) hx hb dX7_wordOf_14 (by decide) (fun hc4 => ?_) (fun hc4 => ?_)
      · have hf := (if_neg hc4).symm.trans hf
        exact hexit1 (s1.1, s1.2) (Option.some.inj hf).symm ls (lv_sub hl [2] rfl)
      · have hf := (if_pos hc4).symm.trans hf
        refine lv_aload_n hx hb dX7_wordOf_17 rfl (lv_at hl 0 rfl) ?_
        refine lv_aload_n hx hb dX7_wordOf_18 rfl (lv_at hl 1 rfl) ?_
        refine lv_iload_n hx hb dX7_wordOf_19 rfl (lv_at hl 3 rfl) ?_
        obtain ⟨hg5, hf⟩ := gd_some hf
        have hj6 := vi_lt hg5
        have hj7 : base + s1.2.toNatClampNeg < 16 := Nat.lt_of_lt_of_le (Nat.add_lt_add_left hj6 _) hbs
        refine va_aldq (f := (fun j => some (mK g (base + j)))) hx hb hK hP q 1 (hq _) rfl hg5 dX7_wordOf_20 ?_
        refine W.eq (g2 := F0 m 21 ls [.ref (mK g (base + s1.2.toNatClampNeg)), .ref (gm g 0)]) rfl ?_
        obtain ⟨q8, hq8, hf⟩ := bd_some hf
        refine kr_S (st1 := [.int q8]) (va_runV (As := [.ref (mK g (base + s1.2.toNatClampNeg))]) (rest := []) ⟨hx, hb, hml, hown, hts⟩ (ct_X7_isWord l n g m_now m_kept m_aside m_isKept m_found m_steps m_queue m_lives m_treads m_tape m_taped m_begins m_ends m_sort m_value m_isWrong m_items m_itemMany m_seedThen m_groundThen m_widths m_sizes m_numbers m_moved (base + s1.2.toNatClampNeg) hj7 q8 hq8) (cwV 1 hts gX7_wordOf_X7_isWord rfl rfl rfl hd_X7_isWord ⟨Nat.le_of_ble_eq_true rfl, Nat.le_of_ble_eq_true rfl⟩) ⟨bl_M, va_recv hK hP (ci := 5) (q0 := 0) rfl k_md, pr_M rfl hB hP hS⟩ rfl rfl hl.1 rfl (lv_room (Nat.le_of_ble_eq_true rfl)) dX7_wordOf_21 ⟨Nat.le_refl _, Nat.le_refl _⟩) rfl (fun hn9 => ?_)
        refine lv_if_eq (tgt := 31) hx hb dX7_wordOf_24 (by decide) (fun hc10 => ?_) (fun hc10 => ?_)
        · have hf := (if_pos hc10).symm.trans hf
          refine lv_iload_n hx hb dX7_wordOf_31 rfl (lv_at hl 2 rfl) ?_
          refine lv_istore_n (lv' := [(2, .int s1.1), (0, .ref (gm g 0)), (1, .ref (gm g q)), (3, .int s1.2)]) hx hb dX7_wordOf_32 rfl hl (by decide) rfl (fun ls hl => ?_)
          refine lv_iinc (v := (s1.2 + (1 : Int32))) (lv' := [(3, .int (s1.2 + (1 : Int32))), (2, .int s1.1), (0, .ref (gm g 0)), (1, .ref (gm g q))]) hx hb dX7_wordOf_33 hl (k := 3) rfl (congrArg (fun y => s1.2 + y) (by decide : Int32.ofInt (1) = (1 : Int32))) (by decide) rfl (fun ls hl => ?_)
          refine lv_goto (tgt := 4) hx hb dX7_wordOf_36 (by decide) ?_
          exact hback1 _ (Option.some.inj hf).symm ls (lv_sub hl [2, 3, 1, 0] rfl)
        · have hf := (if_neg hc10).symm.trans hf
          refine lv_iload_n hx hb dX7_wordOf_27 rfl (lv_at hl 3 rfl) ?_
          refine lv_goto (tgt := 32) hx hb dX7_wordOf_28 (by decide) ?_
          refine lv_istore_n (lv' := [(2, .int s1.2), (0, .ref (gm g 0)), (1, .ref (gm g q)), (3, .int s1.2)]) hx hb dX7_wordOf_32 rfl hl (by decide) rfl (fun ls hl => ?_)
          refine lv_iinc (v := (s1.2 + (1 : Int32))) (lv' := [(3, .int (s1.2 + (1 : Int32))), (2, .int s1.2), (0, .ref (gm g 0)), (1, .ref (gm g q))]) hx hb dX7_wordOf_33 hl (k := 3) rfl (congrArg (fun y => s1.2 + y) (by decide : Int32.ofInt (1) = (1 : Int32))) (by decide) rfl (fun ls hl => ?_)
          refine lv_goto (tgt := 4) hx hb dX7_wordOf_36 (by decide) ?_
          exact hback1 _ (Option.some.inj hf).symm ls (lv_sub hl [2, 3, 1, 0] rfl)
section KLD
variable {p : Program} {l : Launch} {e : Env} {R : Room} {s : State} {m : MethodId} {args : Array Value} {below : List Frame} {meth : Method} {c : Code} {H : Heap} {locs : List Loc} {cells slots : Nat} {Q : State → Prop}
theorem kr_ldcwS {cc : ByteArray} {pc : Nat} {ls : Array Slot} {rest : List Value} (hexec : p.tables.exec = Jvm.exec) (hb : c.code = cc) {own tx : String} {index q : Nat} (hown : s.vm.findClass own = some m.cls) (hZ : vk_R own index tx q s) (hdg : decode cc pc = .ok (.ldc_w index, 3))
    (k : W p l e R s m args below meth c H locs cells slots Q (F0 m (pc + 3) ls (.ref q :: rest))) : W p l e R s m args below meth c H locs cells slots Q (F0 m pc ls rest) := by
  intro T hT X
  obtain ⟨t, a1, b1⟩ := k T hT X
  refine ⟨t, ?_, b1⟩
  subst hb
  obtain ⟨k1, cf, i, a', hk, hcf, hcp, -, hr, hev'⟩ := Cond.stringRef_spec hown hZ.1
  cases hZ.2.symm.trans hev'
  obtain ⟨k', hk', he⟩ := X.warmed.alike.2.2 _ _ hk
  have hr' : k'.resolved[index]? = some (some (.string q)) := by
    rcases X.warmed.entry hk hk' index with h | ⟨h, -⟩
    · rw [h]; exact hr
    · rw [hr] at h; cases h
  jvm_step X.here [hexec, hdg, ldc_w.wp_string (e := e) (s := T) (f := F0 m pc ls rest) X.here.top hk' (by rw [he]; exact hcf) hcp hr']
  exact a1
end KLD
set_option maxHeartbeats 4000000 in
set_option maxRecDepth 100000 in
theorem ct_X7_readSeed (l : Launch) (n : Nat) (g : GM) (m_now : Nat → Int32) (m_kept : Nat → Int32) (m_aside : Nat → Int32) (m_isKept : Int32) (m_found : Nat → Int32) (m_steps : Nat → Int32) (m_queue : Nat → Int32) (m_lives : Nat → Int32) (m_treads : Nat → Int32) (m_tape : Nat → Int32) (m_taped : Int32) (m_begins : Int32) (m_ends : Int32) (m_sort : Int32) (m_value : Int32) (m_isWrong : Int32) (m_items : Nat → Int32) (m_itemMany : Int32) (m_seedThen : Int32) (m_groundThen : Nat → Int32) (m_widths : Nat → Int32) (m_sizes : Nat → Int32) (m_numbers : Nat → Int32) (m_moved : Nat → Int32) (a1 : Int32) (res : Int32 × Int32 × Int32 × Int32 × Int32 × (Nat → Int32) × Int32 × Int32) (hf : fX7_readSeed n a1 m_tape m_taped m_begins m_ends m_sort m_value m_isWrong m_items m_itemMany m_seedThen = some res) : Met l yX7_readSeed wsX7_readSeed ({ frames := 7, cells := 0, slots := 0, locals := 187 }) (va_Pc [.ref (gm g 0), .int a1] (mI g (m_now, m_kept, m_aside, m_isKept, m_found, m_steps, m_queue, m_lives, m_treads, m_tape, m_taped, m_begins, m_ends, m_sort, m_value, m_isWrong, m_items, m_itemMany, m_seedThen, m_groundThen, m_widths, m_sizes, m_numbers, m_moved))) (qW none True g.1 (mw g (m_now, m_kept, m_aside, m_isKept, m_found, m_steps, m_queue, m_lives, m_treads, m_tape, m_taped, res.1, res.2.1, res.2.2.1, res.2.2.2.1, res.2.2.2.2.1, res.2.2.2.2.2.1, res.2.2.2.2.2.2.1, res.2.2.2.2.2.2.2, m_groundThen, m_widths, m_sizes, m_numbers, m_moved)) (mA g)) 0 0 (mA g) := by
  refine Met.ofW (cc := cX7_readSeed) (maxL := 5) (ret := none) (by decide) rfl ?_
  intro p e s m args below meth c s₁ B hml hv
  obtain ⟨rfl, hI⟩ := hv
  have hx := B.exec
  have hb := B.bytes
  have hr := B.returns
  have hts := atoms_spec (ws := wsX7_readSeed) B.pre
  have hown : s.vm.findClass RX7 = some m.cls := findClass_of_methodNamed B.named
  have hlocks := B.notSynchronized
  have hP := hI.1
  have hB := hI.2
  have hK := hB.1
  have hNW := hB.2.1
  have hS : va_S (mA g) s.heap s.heap [] := va_S.rf
  have hw0 := hts (.fieldLink RX7 337 "SownPathsModel" "seedThen" "I") (by decide +kernel)
  have hw1 := hts (.fieldLink RX7 65 "SownPathsModel" "headingNames" "[Ljava/lang/String;") (by decide +kernel)
  have hw2 := hts (.fieldLink RX7 319 "SownPathsModel" "isWrong" "Z") (by decide +kernel)
  have hw3 := hts (.methodLink RX7 192 Lib.Math.max.name) (by decide +kernel)
  have hw4 := hts (.static Lib.Math.max.name) (by decide +kernel)
  have hw5 := hts (.initialized "java/lang/Math") (by decide +kernel)
  have hw6 := hts (.code Lib.Math.max.name Lib.Math.max.code 2 (some .int)) (by decide +kernel)
  have iwX7 : ∀ w ∈ wsX70, w ∈ wsX7_readSeed := fun w h => List.mem_cons_of_mem _ (List.mem_append_right _ h)
  have hl := lv_entry ([.ref (gm g 0), .int a1]) (n := 5) (Nat.le_of_ble_eq_true rfl)
  rw [lg_entry_eq]
  generalize (lg_sl ([.ref (gm g 0), .int a1]) ++ List.replicate (5 - (lg_sl ([.ref (gm g 0), .int a1])).length) Slot.unset).toArray = ls at hl ⊢
  have hl : lv_has ls 5 [(0, .ref (gm g 0)), (1, .int a1)] := hl
  unfold fX7_readSeed at hf
  refine lv_aload_n hx hb dX7_readSeed_0 rfl (lv_at hl 0 rfl) ?_
  refine lv_aload_n hx hb dX7_readSeed_1 rfl (lv_at hl 0 rfl) ?_
  refine va_get (D := g.1) (ci := 5) (v := .int m_seedThen) (C := RX7) (T := TX7) (N := 27) hx hb hts iwX7 hown hK hP 0 k_md rfl 21 (by decide) hw0 (fun _ h9 => h9) rfl dX7_readSeed_2 ?_
  refine lv_bipush (v := (8 : Int32)) hx hb dX7_readSeed_5 (by decide) ?_
  refine lv_icmp_ge (tgt := 14) hx hb dX7_readSeed_7 (by decide) (fun hc1 => ?_) (fun hc1 => ?_)
  · have hf := (if_pos hc1).symm.trans hf
    refine lv_iconst (v := (0 : Int32)) hx hb dX7_readSeed_14 (by decide) ?_
    obtain ⟨q2, hq2, hf⟩ := bd_some hf
    refine kr_W (st1 := []) (va_runV (As := [.int (0 : Int32)]) (rest := []) ⟨hx, hb, hml, hown, hts⟩ (ct_X7_must l n g m_now m_kept m_aside m_isKept m_found m_steps m_queue m_lives m_treads m_tape m_taped m_begins m_ends m_sort m_value m_isWrong m_items m_itemMany m_seedThen m_groundThen m_widths m_sizes m_numbers m_moved (0 : Int32) q2 hq2) (cwV 1 hts gX7_readSeed_X7_must rfl rfl rfl hd_X7_must ⟨Nat.le_of_ble_eq_true rfl, Nat.le_of_ble_eq_true rfl⟩) ⟨bl_M, va_recv hK hP (ci := 5) (q0 := 0) rfl k_md, pr_M rfl hB hP hS⟩ rfl rfl hl.1 rfl (lv_room (Nat.le_of_ble_eq_true rfl)) dX7_readSeed_15 ⟨Nat.le_refl _, Nat.le_refl _⟩) hS rfl (fun hn3 H locs hP hS => ?_)
    have hP : va_P g.1 vwCl (mw g (m_now, m_kept, m_aside, m_isKept, m_found, m_steps, m_queue, m_lives, m_treads, m_tape, m_taped, q2.1, q2.2.1, q2.2.2.1, q2.2.2.2.1, q2.2.2.2.2, m_items, m_itemMany, m_seedThen, m_groundThen, m_widths, m_sizes, m_numbers, m_moved)) H := hP
    refine lv_aload_n hx hb dX7_readSeed_18 rfl (lv_at hl 0 rfl) ?_
    refine lv_dup hx hb dX7_readSeed_19 rfl ?_
    refine va_get (D := g.1) (ci := 5) (v := .int m_seedThen) (C := RX7) (T := TX7) (N := 27) hx hb hts iwX7 hown hK hP 0 k_md rfl 21 (by decide) hw0 (fun _ h9 => h9) rfl dX7_readSeed_20 ?_
    refine lv_iconst (v := (1 : Int32)) hx hb dX7_readSeed_23 (by decide) ?_
    refine lv_iadd hx hb dX7_readSeed_24 ?_
    refine va_put (D := g.1) (ci := 5) (v := .int (m_seedThen + (1 : Int32))) (ty := .int) (C := RX7) (T := TX7) (N := 27) hx hb hts iwX7 tyX7 tyX7_ok nmX7 hown hK hP (mD hB.2.2.1 _) hS 0 k_md rfl 21 (by decide) hw0 (fun _ h9 => h9) rfl (tyX7_ok 21 (by decide)) rfl rfl (Nat.le_of_ble_eq_true rfl) dX7_readSeed_25 (fun H locs hP _ hS => ?_)
    have hP : va_P g.1 vwCl (mw g (m_now, m_kept, m_aside, m_isKept, m_found, m_steps, m_queue, m_lives, m_treads, m_tape, m_taped, q2.1, q2.2.1, q2.2.2.1, q2.2.2.2.1, q2.2.2.2.2, m_items, m_itemMany, (m_seedThen + (1 : Int32)), m_groundThen, m_widths, m_sizes, m_numbers, m_moved)) H := w_eq (k_set_seedThen (m_seedThen + (1 : Int32))) hP
    refine lv_aload_n hx hb dX7_readSeed_28 rfl (lv_at hl 0 rfl) ?_
    refine lv_iconst (v := (0 : Int32)) hx hb dX7_readSeed_29 (by decide) ?_
    refine lv_bipush (v := (35 : Int32)) hx hb dX7_readSeed_30 (by decide) ?_
    obtain ⟨q4, hq4, hf⟩ := bd_some hf
    refine kr_W (st1 := [.int q4.1]) (va_runV (As := [.int (0 : Int32), .int (35 : Int32)]) (rest := []) ⟨hx, hb, hml, hown, hts⟩ (ct_X7_number l n g m_now m_kept m_aside m_isKept m_found m_steps m_queue m_lives m_treads m_tape m_taped q2.1 q2.2.1 q2.2.2.1 q2.2.2.2.1 q2.2.2.2.2 m_items m_itemMany (m_seedThen + (1 : Int32)) m_groundThen m_widths m_sizes m_numbers m_moved (0 : Int32) (35 : Int32) q4 hq4) (cwV 2 hts gX7_readSeed_X7_number rfl rfl rfl hd_X7_number ⟨Nat.le_of_ble_eq_true rfl, Nat.le_of_ble_eq_true rfl⟩) ⟨bl_M, va_recv hK hP (ci := 5) (q0 := 0) rfl k_md, pr_M rfl hB hP hS⟩ rfl rfl hl.1 rfl (lv_room (Nat.le_of_ble_eq_true rfl)) dX7_readSeed_32 ⟨Nat.le_refl _, Nat.le_refl _⟩) hS rfl (fun hn5 H locs hP hS => ?_)
    have hP : va_P g.1 vwCl (mw g (m_now, m_kept, m_aside, m_isKept, m_found, m_steps, m_queue, m_lives, m_treads, m_tape, m_taped, q4.2.1, q4.2.2.1, q4.2.2.2.1, q4.2.2.2.2.1, q4.2.2.2.2.2, m_items, m_itemMany, (m_seedThen + (1 : Int32)), m_groundThen, m_widths, m_sizes, m_numbers, m_moved)) H := hP
    refine lv_istore_n (lv' := [(2, .int q4.1), (0, .ref (gm g 0)), (1, .int a1)]) hx hb dX7_readSeed_35 rfl hl (by decide) rfl (fun ls hl => ?_)
    refine lv_aload_n hx hb dX7_readSeed_36 rfl (lv_at hl 1 rfl) ?_
    refine lv_aload_n hx hb dX7_readSeed_37 rfl (lv_at hl 1 rfl) ?_
    refine va_get (D := g.1) (ci := 5) (v := .ref (gm g 11)) (C := RX7) (T := TX7) (N := 27) hx hb hts iwX7 hown hK hP 0 k_md rfl 17 (by decide) hw1 (fun _ h9 => h9) rfl dX7_readSeed_38 ?_
    obtain ⟨q6, hq6, hf⟩ := bd_some hf
    refine kr_S (st1 := [.int q6]) (va_runV (As := [.ref (gm g 11)]) (rest := []) ⟨hx, hb, hml, hown, hts⟩ (ct_X7_wordOf l n g m_now m_kept m_aside m_isKept m_found m_steps m_queue m_lives m_treads m_tape m_taped q4.2.1 q4.2.2.1 q4.2.2.2.1 q4.2.2.2.2.1 q4.2.2.2.2.2 m_items m_itemMany (m_seedThen + (1 : Int32)) m_groundThen m_widths m_sizes m_numbers m_moved 11 10 4 (fun _ => k_headingNames) (by decide) q6 hq6) (cwV 1 hts gX7_readSeed_X7_wordOf rfl rfl rfl hd_X7_wordOf ⟨Nat.le_of_ble_eq_true rfl, Nat.le_of_ble_eq_true rfl⟩) ⟨bl_M, va_recv hK hP (ci := 5) (q0 := 0) rfl k_md, pr_M rfl hB hP hS⟩ rfl rfl hl.1 rfl (lv_room (Nat.le_of_ble_eq_true rfl)) dX7_readSeed_41 ⟨Nat.le_refl _, Nat.le_refl _⟩) rfl (fun hn7 => ?_)
    refine lv_istore_n (lv' := [(3, .int q6), (2, .int q4.1), (0, .ref (gm g 0)), (1, .int a1)]) hx hb dX7_readSeed_44 rfl hl (by decide) rfl (fun ls hl => ?_)
    refine lv_iload_n hx hb dX7_readSeed_45 rfl (lv_at hl 0 rfl) ?_
    refine lv_if_lt (tgt := 54) hx hb dX7_readSeed_46 (by decide) (fun hc8 => ?_) (fun hc8 => ?_)
    · have hf := (if_pos hc8).symm.trans hf
      refine lv_iconst (v := (0 : Int32)) hx hb dX7_readSeed_54 (by decide) ?_
      refine lv_istore (lv' := [(4, .int (0 : Int32)), (3, .int q6), (2, .int q4.1), (0, .ref (gm g 0)), (1, .int a1)]) hx hb dX7_readSeed_55 hl (by decide) rfl (fun ls hl => ?_)
      refine lv_aload_n hx hb dX7_readSeed_57 rfl (lv_at hl 3 rfl) ?_
      refine va_get (D := g.1) (ci := 5) (v := .int q4.2.2.2.2.2) (C := RX7) (T := TX7) (N := 27) hx hb hts iwX7 hown hK hP 0 k_md rfl 15 (by decide) hw2 (fun _ h9 => h9) rfl dX7_readSeed_58 ?_
      refine lv_if_ne (tgt := 89) hx hb dX7_readSeed_61 (by decide) (fun hc9 => ?_) (fun hc9 => ?_)
      · have hf := (if_neg hc9).symm.trans hf
        refine lv_aload_n hx hb dX7_readSeed_89 rfl (lv_at hl 3 rfl) ?_
        refine lv_iload_n hx hb dX7_readSeed_90 rfl (lv_at hl 4 rfl) ?_
        refine lv_iload_n hx hb dX7_readSeed_91 rfl (lv_at hl 2 rfl) ?_
        refine lv_iconst (v := (0 : Int32)) hx hb dX7_readSeed_92 (by decide) ?_
        refine lv_iload_n hx hb dX7_readSeed_93 rfl (lv_at hl 1 rfl) ?_
        refine va_mmax hx hb (hml.trans hl.1.symm) hown hw3 hw4 hw5 hw6 (Nat.le_of_ble_eq_true rfl) (Nat.le_of_ble_eq_true rfl) (Nat.le_of_ble_eq_true rfl) (Nat.le_of_ble_eq_true rfl) dX7_readSeed_94 ?_
        refine lv_iload hx hb dX7_readSeed_97 (lv_at hl 0 rfl) ?_
        obtain ⟨q10, hq10, hf⟩ := bd_some hf
        refine kr_W (st1 := []) (va_runV (As := [.int a1, .int q4.1, .int (if (0 : Int32) < q6 then q6 else (0 : Int32)), .int (0 : Int32)]) (rest := []) ⟨hx, hb, hml, hown, hts⟩ (ct_X7_item l n g m_now m_kept m_aside m_isKept m_found m_steps m_queue m_lives m_treads m_tape m_taped q4.2.1 q4.2.2.1 q4.2.2.2.1 q4.2.2.2.2.1 q4.2.2.2.2.2 m_items m_itemMany (m_seedThen + (1 : Int32)) m_groundThen m_widths m_sizes m_numbers m_moved a1 q4.1 (if (0 : Int32) < q6 then q6 else (0 : Int32)) (0 : Int32) q10 hq10) (cwV 4 hts gX7_readSeed_X7_item rfl rfl rfl hd_X7_item ⟨Nat.le_of_ble_eq_true rfl, Nat.le_of_ble_eq_true rfl⟩) ⟨bl_M, va_recv hK hP (ci := 5) (q0 := 0) rfl k_md, pr_M rfl hB hP hS⟩ rfl rfl hl.1 rfl (lv_room (Nat.le_of_ble_eq_true rfl)) dX7_readSeed_99 ⟨Nat.le_refl _, Nat.le_refl _⟩) hS rfl (fun hn11 H locs hP hS => ?_)
        have hP : va_P g.1 vwCl (mw g (m_now, m_kept, m_aside, m_isKept, m_found, m_steps, m_queue, m_lives, m_treads, m_tape, m_taped, q4.2.1, q4.2.2.1, q4.2.2.2.1, q4.2.2.2.2.1, q4.2.2.2.2.2, q10.1, q10.2, (m_seedThen + (1 : Int32)), m_groundThen, m_widths, m_sizes, m_numbers, m_moved)) H := hP
        have hres : (q4.2.1, q4.2.2.1, q4.2.2.2.1, q4.2.2.2.2.1, q4.2.2.2.2.2, q10.1, q10.2, (m_seedThen + (1 : Int32))) = res := (Option.some.inj hf)
        have hP := w_eq (congrArg (fun z => mw g (m_now, m_kept, m_aside, m_isKept, m_found, m_steps, m_queue, m_lives, m_treads, m_tape, m_taped, z.1, z.2.1, z.2.2.1, z.2.2.2.1, z.2.2.2.2.1, z.2.2.2.2.2.1, z.2.2.2.2.2.2.1, z.2.2.2.2.2.2.2, m_groundThen, m_widths, m_sizes, m_numbers, m_moved)) hres) hP
        exact W.vret hx hb hr (fun t ht hW => ⟨rfl, trivial, by rw [ht]; exact hP, hS.F ht⟩) hS.2.2 dX7_readSeed_102
      · have hf := (if_pos hc9).symm.trans hf
        refine lv_aload_n hx hb dX7_readSeed_64 rfl (lv_at hl 3 rfl) ?_
        refine kr_ldcwS hx hb hown (q := mK g 15) (hB.2.2.2.1 ("SownPathsModel", 347, "aged", 15) (by decide +kernel)) dX7_readSeed_65 ?_
        obtain ⟨q12, hq12, hf⟩ := bd_some hf
        refine kr_S (st1 := [.int q12]) (va_runV (As := [.ref (mK g 15)]) (rest := []) ⟨hx, hb, hml, hown, hts⟩ (ct_X7_isWord l n g m_now m_kept m_aside m_isKept m_found m_steps m_queue m_lives m_treads m_tape m_taped q4.2.1 q4.2.2.1 q4.2.2.2.1 q4.2.2.2.2.1 q4.2.2.2.2.2 m_items m_itemMany (m_seedThen + (1 : Int32)) m_groundThen m_widths m_sizes m_numbers m_moved 15 (by decide) q12 hq12) (cwV 1 hts gX7_readSeed_X7_isWord rfl rfl rfl hd_X7_isWord ⟨Nat.le_of_ble_eq_true rfl, Nat.le_of_ble_eq_true rfl⟩) ⟨bl_M, va_recv hK hP (ci := 5) (q0 := 0) rfl k_md, pr_M rfl hB hP hS⟩ rfl rfl hl.1 rfl (lv_room (Nat.le_of_ble_eq_true rfl)) dX7_readSeed_68 ⟨Nat.le_refl _, Nat.le_refl _⟩) rfl (fun hn13 => ?_)
        refine lv_if_eq (tgt := 89) hx hb dX7_readSeed_71 (by decide) (fun hc14 => ?_) (fun hc14 => ?_)
        · have hf := (if_pos hc14).symm.trans hf
          refine lv_aload_n hx hb dX7_readSeed_89 rfl (lv_at hl 3 rfl) ?_
          refine lv_iload_n hx hb dX7_readSeed_90 rfl (lv_at hl 4 rfl) ?_
          refine lv_iload_n hx hb dX7_readSeed_91 rfl (lv_at hl 2 rfl) ?_
          refine lv_iconst (v := (0 : Int32)) hx hb dX7_readSeed_92 (by decide) ?_
          refine lv_iload_n hx hb dX7_readSeed_93 rfl (lv_at hl 1 rfl) ?_
          refine va_mmax hx hb (hml.trans hl.1.symm) hown hw3 hw4 hw5 hw6 (Nat.le_of_ble_eq_true rfl) (Nat.le_of_ble_eq_true rfl) (Nat.le_of_ble_eq_true rfl) (Nat.le_of_ble_eq_true rfl) dX7_readSeed_94 ?_
          refine lv_iload hx hb dX7_readSeed_97 (lv_at hl 0 rfl) ?_
          obtain ⟨q15, hq15, hf⟩ := bd_some hf
          refine kr_W (st1 := []) (va_runV (As := [.int a1, .int q4.1, .int (if (0 : Int32) < q6 then q6 else (0 : Int32)), .int (0 : Int32)]) (rest := []) ⟨hx, hb, hml, hown, hts⟩ (ct_X7_item l n g m_now m_kept m_aside m_isKept m_found m_steps m_queue m_lives m_treads m_tape m_taped q4.2.1 q4.2.2.1 q4.2.2.2.1 q4.2.2.2.2.1 q4.2.2.2.2.2 m_items m_itemMany (m_seedThen + (1 : Int32)) m_groundThen m_widths m_sizes m_numbers m_moved a1 q4.1 (if (0 : Int32) < q6 then q6 else (0 : Int32)) (0 : Int32) q15 hq15) (cwV 4 hts gX7_readSeed_X7_item rfl rfl rfl hd_X7_item ⟨Nat.le_of_ble_eq_true rfl, Nat.le_of_ble_eq_true rfl⟩) ⟨bl_M, va_recv hK hP (ci := 5) (q0 := 0) rfl k_md, pr_M rfl hB hP hS⟩ rfl rfl hl.1 rfl (lv_room (Nat.le_of_ble_eq_true rfl)) dX7_readSeed_99 ⟨Nat.le_refl _, Nat.le_refl _⟩) hS rfl (fun hn16 H locs hP hS => ?_)
          have hP : va_P g.1 vwCl (mw g (m_now, m_kept, m_aside, m_isKept, m_found, m_steps, m_queue, m_lives, m_treads, m_tape, m_taped, q4.2.1, q4.2.2.1, q4.2.2.2.1, q4.2.2.2.2.1, q4.2.2.2.2.2, q15.1, q15.2, (m_seedThen + (1 : Int32)), m_groundThen, m_widths, m_sizes, m_numbers, m_moved)) H := hP
          have hres : (q4.2.1, q4.2.2.1, q4.2.2.2.1, q4.2.2.2.2.1, q4.2.2.2.2.2, q15.1, q15.2, (m_seedThen + (1 : Int32))) = res := (Option.some.inj hf)
          have hP := w_eq (congrArg (fun z => mw g (m_now, m_kept, m_aside, m_isKept, m_found, m_steps, m_queue, m_lives, m_treads, m_tape, m_taped, z.1, z.2.1, z.2.2.1, z.2.2.2.1, z.2.2.2.2.1, z.2.2.2.2.2.1, z.2.2.2.2.2.2.1, z.2.2.2.2.2.2.2, m_groundThen, m_widths, m_sizes, m_numbers, m_moved)) hres) hP
          exact W.vret hx hb hr (fun t ht hW => ⟨rfl, trivial, by rw [ht]; exact hP, hS.F ht⟩) hS.2.2 dX7_readSeed_102
        · have hf := (if_neg hc14).symm.trans hf
          refine lv_aload_n hx hb dX7_readSeed_74 rfl (lv_at hl 3 rfl) ?_
          refine lv_iconst (v := (1 : Int32)) hx hb dX7_readSeed_75 (by decide) ?_
          obtain ⟨q17, hq17, hf⟩ := bd_some hf
          refine kr_W (st1 := []) (va_runV (As := [.int (1 : Int32)]) (rest := []) ⟨hx, hb, hml, hown, hts⟩ (ct_X7_must l n g m_now m_kept m_aside m_isKept m_found m_steps m_queue m_lives m_treads m_tape m_taped q4.2.1 q4.2.2.1 q4.2.2.2.1 q4.2.2.2.2.1 q4.2.2.2.2.2 m_items m_itemMany (m_seedThen + (1 : Int32)) m_groundThen m_widths m_sizes m_numbers m_moved (1 : Int32) q17 hq17) (cwV 1 hts gX7_readSeed_X7_must rfl rfl rfl hd_X7_must ⟨Nat.le_of_ble_eq_true rfl, Nat.le_of_ble_eq_true rfl⟩) ⟨bl_M, va_recv hK hP (ci := 5) (q0 := 0) rfl k_md, pr_M rfl hB hP hS⟩ rfl rfl hl.1 rfl (lv_room (Nat.le_of_ble_eq_true rfl)) dX7_readSeed_76 ⟨Nat.le_refl _, Nat.le_refl _⟩) hS rfl (fun hn18 H locs hP hS => ?_)
          have hP : va_P g.1 vwCl (mw g (m_now, m_kept, m_aside, m_isKept, m_found, m_steps, m_queue, m_lives, m_treads, m_tape, m_taped, q17.1, q17.2.1, q17.2.2.1, q17.2.2.2.1, q17.2.2.2.2, m_items, m_itemMany, (m_seedThen + (1 : Int32)), m_groundThen, m_widths, m_sizes, m_numbers, m_moved)) H := hP
          refine lv_aload_n hx hb dX7_readSeed_79 rfl (lv_at hl 3 rfl) ?_
          refine lv_iconst (v := (0 : Int32)) hx hb dX7_readSeed_80 (by decide) ?_
          refine lv_sipush (v := (999 : Int32)) hx hb dX7_readSeed_81 (by decide) ?_
          obtain ⟨q19, hq19, hf⟩ := bd_some hf
          refine kr_W (st1 := [.int q19.1]) (va_runV (As := [.int (0 : Int32), .int (999 : Int32)]) (rest := []) ⟨hx, hb, hml, hown, hts⟩ (ct_X7_number l n g m_now m_kept m_aside m_isKept m_found m_steps m_queue m_lives m_treads m_tape m_taped q17.1 q17.2.1 q17.2.2.1 q17.2.2.2.1 q17.2.2.2.2 m_items m_itemMany (m_seedThen + (1 : Int32)) m_groundThen m_widths m_sizes m_numbers m_moved (0 : Int32) (999 : Int32) q19 hq19) (cwV 2 hts gX7_readSeed_X7_number rfl rfl rfl hd_X7_number ⟨Nat.le_of_ble_eq_true rfl, Nat.le_of_ble_eq_true rfl⟩) ⟨bl_M, va_recv hK hP (ci := 5) (q0 := 0) rfl k_md, pr_M rfl hB hP hS⟩ rfl rfl hl.1 rfl (lv_room (Nat.le_of_ble_eq_true rfl)) dX7_readSeed_84 ⟨Nat.le_refl _, Nat.le_refl _⟩) hS rfl (fun hn20 H locs hP hS => ?_)
          have hP : va_P g.1 vwCl (mw g (m_now, m_kept, m_aside, m_isKept, m_found, m_steps, m_queue, m_lives, m_treads, m_tape, m_taped, q19.2.1, q19.2.2.1, q19.2.2.2.1, q19.2.2.2.2.1, q19.2.2.2.2.2, m_items, m_itemMany, (m_seedThen + (1 : Int32)), m_groundThen, m_widths, m_sizes, m_numbers, m_moved)) H := hP
          refine lv_istore (lv' := [(4, .int q19.1), (3, .int q6), (2, .int q4.1), (0, .ref (gm g 0)), (1, .int a1)]) hx hb dX7_readSeed_87 hl (by decide) rfl (fun ls hl => ?_)
          refine lv_aload_n hx hb dX7_readSeed_89 rfl (lv_at hl 3 rfl) ?_
          refine lv_iload_n hx hb dX7_readSeed_90 rfl (lv_at hl 4 rfl) ?_
          refine lv_iload_n hx hb dX7_readSeed_91 rfl (lv_at hl 2 rfl) ?_
          refine lv_iconst (v := (0 : Int32)) hx hb dX7_readSeed_92 (by decide) ?_
          refine lv_iload_n hx hb dX7_readSeed_93 rfl (lv_at hl 1 rfl) ?_
          refine va_mmax hx hb (hml.trans hl.1.symm) hown hw3 hw4 hw5 hw6 (Nat.le_of_ble_eq_true rfl) (Nat.le_of_ble_eq_true rfl) (Nat.le_of_ble_eq_true rfl) (Nat.le_of_ble_eq_true rfl) dX7_readSeed_94 ?_
          refine lv_iload hx hb dX7_readSeed_97 (lv_at hl 0 rfl) ?_
          obtain ⟨q21, hq21, hf⟩ := bd_some hf
          refine kr_W (st1 := []) (va_runV (As := [.int a1, .int q4.1, .int (if (0 : Int32) < q6 then q6 else (0 : Int32)), .int q19.1]) (rest := []) ⟨hx, hb, hml, hown, hts⟩ (ct_X7_item l n g m_now m_kept m_aside m_isKept m_found m_steps m_queue m_lives m_treads m_tape m_taped q19.2.1 q19.2.2.1 q19.2.2.2.1 q19.2.2.2.2.1 q19.2.2.2.2.2 m_items m_itemMany (m_seedThen + (1 : Int32)) m_groundThen m_widths m_sizes m_numbers m_moved a1 q4.1 (if (0 : Int32) < q6 then q6 else (0 : Int32)) q19.1 q21 hq21) (cwV 4 hts gX7_readSeed_X7_item rfl rfl rfl hd_X7_item ⟨Nat.le_of_ble_eq_true rfl, Nat.le_of_ble_eq_true rfl⟩) ⟨bl_M, va_recv hK hP (ci := 5) (q0 := 0) rfl k_md, pr_M rfl hB hP hS⟩ rfl rfl hl.1 rfl (lv_room (Nat.le_of_ble_eq_true rfl)) dX7_readSeed_99 ⟨Nat.le_refl _, Nat.le_refl _⟩) hS rfl (fun hn22 H locs hP hS => ?_)
          have hP : va_P g.1 vwCl (mw g (m_now, m_kept, m_aside, m_isKept, m_found, m_steps, m_queue, m_lives, m_treads, m_tape, m_taped, q19.2.1, q19.2.2.1, q19.2.2.2.1, q19.2.2.2.2.1, q19.2.2.2.2.2, q21.1, q21.2, (m_seedThen + (1 : Int32)), m_groundThen, m_widths, m_sizes, m_numbers, m_moved)) H := hP
          have hres : (q19.2.1, q19.2.2.1, q19.2.2.2.1, q19.2.2.2.2.1, q19.2.2.2.2.2, q21.1, q21.2, (m_seedThen + (1 : Int32))) = res := (Option.some.inj hf)
          have hP := w_eq (congrArg (fun z => mw g (m_now, m_kept, m_aside, m_isKept, m_found, m_steps, m_queue, m_lives, m_treads, m_tape, m_taped, z.1, z.2.1, z.2.2.1, z.2.2.2.1, z.2.2.2.2.1, z.2.2.2.2.2.1, z.2.2.2.2.2.2.1, z.2.2.2.2.2.2.2, m_groundThen, m_widths, m_sizes, m_numbers, m_moved)) hres) hP
          exact W.vret hx hb hr (fun t ht hW => ⟨rfl, trivial, by rw [ht]; exact hP, hS.F ht⟩) hS.2.2 dX7_readSeed_102
    · have hf := (if_neg hc8).symm.trans hf
      refine lv_aload_n hx hb dX7_readSeed_49 rfl (lv_at hl 2 rfl) ?_
      refine lv_iconst (v := (1 : Int32)) hx hb dX7_readSeed_50 (by decide) ?_
      obtain ⟨q23, hq23, hf⟩ := bd_some hf
      refine kr_W (st1 := []) (va_runV (As := [.int (1 : Int32)]) (rest := []) ⟨hx, hb, hml, hown, hts⟩ (ct_X7_must l n g m_now m_kept m_aside m_isKept m_found m_steps m_queue m_lives m_treads m_tape m_taped q4.2.1 q4.2.2.1 q4.2.2.2.1 q4.2.2.2.2.1 q4.2.2.2.2.2 m_items m_itemMany (m_seedThen + (1 : Int32)) m_groundThen m_widths m_sizes m_numbers m_moved (1 : Int32) q23 hq23) (cwV 1 hts gX7_readSeed_X7_must rfl rfl rfl hd_X7_must ⟨Nat.le_of_ble_eq_true rfl, Nat.le_of_ble_eq_true rfl⟩) ⟨bl_M, va_recv hK hP (ci := 5) (q0 := 0) rfl k_md, pr_M rfl hB hP hS⟩ rfl rfl hl.1 rfl (lv_room (Nat.le_of_ble_eq_true rfl)) dX7_readSeed_51 ⟨Nat.le_refl _, Nat.le_refl _⟩) hS rfl (fun hn24 H locs hP hS => ?_)
      have hP : va_P g.1 vwCl (mw g (m_now, m_kept, m_aside, m_isKept, m_found, m_steps, m_queue, m_lives, m_treads, m_tape, m_taped, q23.1, q23.2.1, q23.2.2.1, q23.2.2.2.1, q23.2.2.2.2, m_items, m_itemMany, (m_seedThen + (1 : Int32)), m_groundThen, m_widths, m_sizes, m_numbers, m_moved)) H := hP
      refine lv_iconst (v := (0 : Int32)) hx hb dX7_readSeed_54 (by decide) ?_
      refine lv_istore (lv' := [(4, .int (0 : Int32)), (3, .int q6), (2, .int q4.1), (0, .ref (gm g 0)), (1, .int a1)]) hx hb dX7_readSeed_55 hl (by decide) rfl (fun ls hl => ?_)
      refine lv_aload_n hx hb dX7_readSeed_57 rfl (lv_at hl 3 rfl) ?_
      refine va_get (D := g.1) (ci := 5) (v := .int q23.2.2.2.2) (C := RX7) (T := TX7) (N := 27) hx hb hts iwX7 hown hK hP 0 k_md rfl 15 (by decide) hw2 (fun _ h9 => h9) rfl dX7_readSeed_58 ?_
      refine lv_if_ne (tgt := 89) hx hb dX7_readSeed_61 (by decide) (fun hc25 => ?_) (fun hc25 => ?_)
      · have hf := (if_neg hc25).symm.trans hf
        refine lv_aload_n hx hb dX7_readSeed_89 rfl (lv_at hl 3 rfl) ?_
        refine lv_iload_n hx hb dX7_readSeed_90 rfl (lv_at hl 4 rfl) ?_
        refine lv_iload_n hx hb dX7_readSeed_91 rfl (lv_at hl 2 rfl) ?_
        refine lv_iconst (v := (0 : Int32)) hx hb dX7_readSeed_92 (by decide) ?_
        refine lv_iload_n hx hb dX7_readSeed_93 rfl (lv_at hl 1 rfl) ?_
        refine va_mmax hx hb (hml.trans hl.1.symm) hown hw3 hw4 hw5 hw6 (Nat.le_of_ble_eq_true rfl) (Nat.le_of_ble_eq_true rfl) (Nat.le_of_ble_eq_true rfl) (Nat.le_of_ble_eq_true rfl) dX7_readSeed_94 ?_
        refine lv_iload hx hb dX7_readSeed_97 (lv_at hl 0 rfl) ?_
        obtain ⟨q26, hq26, hf⟩ := bd_some hf
        refine kr_W (st1 := []) (va_runV (As := [.int a1, .int q4.1, .int (if (0 : Int32) < q6 then q6 else (0 : Int32)), .int (0 : Int32)]) (rest := []) ⟨hx, hb, hml, hown, hts⟩ (ct_X7_item l n g m_now m_kept m_aside m_isKept m_found m_steps m_queue m_lives m_treads m_tape m_taped q23.1 q23.2.1 q23.2.2.1 q23.2.2.2.1 q23.2.2.2.2 m_items m_itemMany (m_seedThen + (1 : Int32)) m_groundThen m_widths m_sizes m_numbers m_moved a1 q4.1 (if (0 : Int32) < q6 then q6 else (0 : Int32)) (0 : Int32) q26 hq26) (cwV 4 hts gX7_readSeed_X7_item rfl rfl rfl hd_X7_item ⟨Nat.le_of_ble_eq_true rfl, Nat.le_of_ble_eq_true rfl⟩) ⟨bl_M, va_recv hK hP (ci := 5) (q0 := 0) rfl k_md, pr_M rfl hB hP hS⟩ rfl rfl hl.1 rfl (lv_room (Nat.le_of_ble_eq_true rfl)) dX7_readSeed_99 ⟨Nat.le_refl _, Nat.le_refl _⟩) hS rfl (fun hn27 H locs hP hS => ?_)
        have hP : va_P g.1 vwCl (mw g (m_now, m_kept, m_aside, m_isKept, m_found, m_steps, m_queue, m_lives, m_treads, m_tape, m_taped, q23.1, q23.2.1, q23.2.2.1, q23.2.2.2.1, q23.2.2.2.2, q26.1, q26.2, (m_seedThen + (1 : Int32)), m_groundThen, m_widths, m_sizes, m_numbers, m_moved)) H := hP
        have hres : (q23.1, q23.2.1, q23.2.2.1, q23.2.2.2.1, q23.2.2.2.2, q26.1, q26.2, (m_seedThen + (1 : Int32))) = res := (Option.some.inj hf)
        have hP := w_eq (congrArg (fun z => mw g (m_now, m_kept, m_aside, m_isKept, m_found, m_steps, m_queue, m_lives, m_treads, m_tape, m_taped, z.1, z.2.1, z.2.2.1, z.2.2.2.1, z.2.2.2.2.1, z.2.2.2.2.2.1, z.2.2.2.2.2.2.1, z.2.2.2.2.2.2.2, m_groundThen, m_widths, m_sizes, m_numbers, m_moved)) hres) hP
        exact W.vret hx hb hr (fun t ht hW => ⟨rfl, trivial, by rw [ht]; exact hP, hS.F ht⟩) hS.2.2 dX7_readSeed_102
      · have hf := (if_pos hc25).symm.trans hf
        refine lv_aload_n hx hb dX7_readSeed_64 rfl (lv_at hl 3 rfl) ?_
        refine kr_ldcwS hx hb hown (q := mK g 15) (hB.2.2.2.1 ("SownPathsModel", 347, "aged", 15) (by decide +kernel)) dX7_readSeed_65 ?_
        obtain ⟨q28, hq28, hf⟩ := bd_some hf
        refine kr_S (st1 := [.int q28]) (va_runV (As := [.ref (mK g 15)]) (rest := []) ⟨hx, hb, hml, hown, hts⟩ (ct_X7_isWord l n g m_now m_kept m_aside m_isKept m_found m_steps m_queue m_lives m_treads m_tape m_taped q23.1 q23.2.1 q23.2.2.1 q23.2.2.2.1 q23.2.2.2.2 m_items m_itemMany (m_seedThen + (1 : Int32)) m_groundThen m_widths m_sizes m_numbers m_moved 15 (by decide) q28 hq28) (cwV 1 hts gX7_readSeed_X7_isWord rfl rfl rfl hd_X7_isWord ⟨Nat.le_of_ble_eq_true rfl, Nat.le_of_ble_eq_true rfl⟩) ⟨bl_M, va_recv hK hP (ci := 5) (q0 := 0) rfl k_md, pr_M rfl hB hP hS⟩ rfl rfl hl.1 rfl (lv_room (Nat.le_of_ble_eq_true rfl)) dX7_readSeed_68 ⟨Nat.le_refl _, Nat.le_refl _⟩) rfl (fun hn29 => ?_)
        refine lv_if_eq (tgt := 89) hx hb dX7_readSeed_71 (by decide) (fun hc30 => ?_) (fun hc30 => ?_)
        · have hf := (if_pos hc30).symm.trans hf
          refine lv_aload_n hx hb dX7_readSeed_89 rfl (lv_at hl 3 rfl) ?_
          refine lv_iload_n hx hb dX7_readSeed_90 rfl (lv_at hl 4 rfl) ?_
          refine lv_iload_n hx hb dX7_readSeed_91 rfl (lv_at hl 2 rfl) ?_
          refine lv_iconst (v := (0 : Int32)) hx hb dX7_readSeed_92 (by decide) ?_
          refine lv_iload_n hx hb dX7_readSeed_93 rfl (lv_at hl 1 rfl) ?_
          refine va_mmax hx hb (hml.trans hl.1.symm) hown hw3 hw4 hw5 hw6 (Nat.le_of_ble_eq_true rfl) (Nat.le_of_ble_eq_true rfl) (Nat.le_of_ble_eq_true rfl) (Nat.le_of_ble_eq_true rfl) dX7_readSeed_94 ?_
          refine lv_iload hx hb dX7_readSeed_97 (lv_at hl 0 rfl) ?_
          obtain ⟨q31, hq31, hf⟩ := bd_some hf
          refine kr_W (st1 := []) (va_runV (As := [.int a1, .int q4.1, .int (if (0 : Int32) < q6 then q6 else (0 : Int32)), .int (0 : Int32)]) (rest := []) ⟨hx, hb, hml, hown, hts⟩ (ct_X7_item l n g m_now m_kept m_aside m_isKept m_found m_steps m_queue m_lives m_treads m_tape m_taped q23.1 q23.2.1 q23.2.2.1 q23.2.2.2.1 q23.2.2.2.2 m_items m_itemMany (m_seedThen + (1 : Int32)) m_groundThen m_widths m_sizes m_numbers m_moved a1 q4.1 (if (0 : Int32) < q6 then q6 else (0 : Int32)) (0 : Int32) q31 hq31) (cwV 4 hts gX7_readSeed_X7_item rfl rfl rfl hd_X7_item ⟨Nat.le_of_ble_eq_true rfl, Nat.le_of_ble_eq_true rfl⟩) ⟨bl_M, va_recv hK hP (ci := 5) (q0 := 0) rfl k_md, pr_M rfl hB hP hS⟩ rfl rfl hl.1 rfl (lv_room (Nat.le_of_ble_eq_true rfl)) dX7_readSeed_99 ⟨Nat.le_refl _, Nat.le_refl _⟩) hS rfl (fun hn32 H locs hP hS => ?_)
          have hP : va_P g.1 vwCl (mw g (m_now, m_kept, m_aside, m_isKept, m_found, m_steps, m_queue, m_lives, m_treads, m_tape, m_taped, q23.1, q23.2.1, q23.2.2.1, q23.2.2.2.1, q23.2.2.2.2, q31.1, q31.2, (m_seedThen + (1 : Int32)), m_groundThen, m_widths, m_sizes, m_numbers, m_moved)) H := hP
          have hres : (q23.1, q23.2.1, q23.2.2.1, q23.2.2.2.1, q23.2.2.2.2, q31.1, q31.2, (m_seedThen + (1 : Int32))) = res := (Option.some.inj hf)
          have hP := w_eq (congrArg (fun z => mw g (m_now, m_kept, m_aside, m_isKept, m_found, m_steps, m_queue, m_lives, m_treads, m_tape, m_taped, z.1, z.2.1, z.2.2.1, z.2.2.2.1, z.2.2.2.2.1, z.2.2.2.2.2.1, z.2.2.2.2.2.2.1, z.2.2.2.2.2.2.2, m_groundThen, m_widths, m_sizes, m_numbers, m_moved)) hres) hP
          exact W.vret hx hb hr (fun t ht hW => ⟨rfl, trivial, by rw [ht]; exact hP, hS.F ht⟩) hS.2.2 dX7_readSeed_102
        · have hf := (if_neg hc30).symm.trans hf
          refine lv_aload_n hx hb dX7_readSeed_74 rfl (lv_at hl 3 rfl) ?_
          refine lv_iconst (v := (1 : Int32)) hx hb dX7_readSeed_75 (by decide) ?_
          obtain ⟨q33, hq33, hf⟩ := bd_some hf
          refine kr_W (st1 := []) (va_runV (As := [.int (1 : Int32)]) (rest := []) ⟨hx, hb, hml, hown, hts⟩ (ct_X7_must l n g m_now m_kept m_aside m_isKept m_found m_steps m_queue m_lives m_treads m_tape m_taped q23.1 q23.2.1 q23.2.2.1 q23.2.2.2.1 q23.2.2.2.2 m_items m_itemMany (m_seedThen + (1 : Int32)) m_groundThen m_widths m_sizes m_numbers m_moved (1 : Int32) q33 hq33) (cwV 1 hts gX7_readSeed_X7_must rfl rfl rfl hd_X7_must ⟨Nat.le_of_ble_eq_true rfl, Nat.le_of_ble_eq_true rfl⟩) ⟨bl_M, va_recv hK hP (ci := 5) (q0 := 0) rfl k_md, pr_M rfl hB hP hS⟩ rfl rfl hl.1 rfl (lv_room (Nat.le_of_ble_eq_true rfl)) dX7_readSeed_76 ⟨Nat.le_refl _, Nat.le_refl _⟩) hS rfl (fun hn34 H locs hP hS => ?_)
          have hP : va_P g.1 vwCl (mw g (m_now, m_kept, m_aside, m_isKept, m_found, m_steps, m_queue, m_lives, m_treads, m_tape, m_taped, q33.1, q33.2.1, q33.2.2.1, q33.2.2.2.1, q33.2.2.2.2, m_items, m_itemMany, (m_seedThen + (1 : Int32)), m_groundThen, m_widths, m_sizes, m_numbers, m_moved)) H := hP
          refine lv_aload_n hx hb dX7_readSeed_79 rfl (lv_at hl 3 rfl) ?_
          refine lv_iconst (v := (0 : Int32)) hx hb dX7_readSeed_80 (by decide) ?_
          refine lv_sipush (v := (999 : Int32)) hx hb dX7_readSeed_81 (by decide) ?_
          obtain ⟨q35, hq35, hf⟩ := bd_some hf
          refine kr_W (st1 := [.int q35.1]) (va_runV (As := [.int (0 : Int32), .int (999 : Int32)]) (rest := []) ⟨hx, hb, hml, hown, hts⟩ (ct_X7_number l n g m_now m_kept m_aside m_isKept m_found m_steps m_queue m_lives m_treads m_tape m_taped q33.1 q33.2.1 q33.2.2.1 q33.2.2.2.1 q33.2.2.2.2 m_items m_itemMany (m_seedThen + (1 : Int32)) m_groundThen m_widths m_sizes m_numbers m_moved (0 : Int32) (999 : Int32) q35 hq35) (cwV 2 hts gX7_readSeed_X7_number rfl rfl rfl hd_X7_number ⟨Nat.le_of_ble_eq_true rfl, Nat.le_of_ble_eq_true rfl⟩) ⟨bl_M, va_recv hK hP (ci := 5) (q0 := 0) rfl k_md, pr_M rfl hB hP hS⟩ rfl rfl hl.1 rfl (lv_room (Nat.le_of_ble_eq_true rfl)) dX7_readSeed_84 ⟨Nat.le_refl _, Nat.le_refl _⟩) hS rfl (fun hn36 H locs hP hS => ?_)
          have hP : va_P g.1 vwCl (mw g (m_now, m_kept, m_aside, m_isKept, m_found, m_steps, m_queue, m_lives, m_treads, m_tape, m_taped, q35.2.1, q35.2.2.1, q35.2.2.2.1, q35.2.2.2.2.1, q35.2.2.2.2.2, m_items, m_itemMany, (m_seedThen + (1 : Int32)), m_groundThen, m_widths, m_sizes, m_numbers, m_moved)) H := hP
          refine lv_istore (lv' := [(4, .int q35.1), (3, .int q6), (2, .int q4.1), (0, .ref (gm g 0)), (1, .int a1)]) hx hb dX7_readSeed_87 hl (by decide) rfl (fun ls hl => ?_)
          refine lv_aload_n hx hb dX7_readSeed_89 rfl (lv_at hl 3 rfl) ?_
          refine lv_iload_n hx hb dX7_readSeed_90 rfl (lv_at hl 4 rfl) ?_
          refine lv_iload_n hx hb dX7_readSeed_91 rfl (lv_at hl 2 rfl) ?_
          refine lv_iconst (v := (0 : Int32)) hx hb dX7_readSeed_92 (by decide) ?_
          refine lv_iload_n hx hb dX7_readSeed_93 rfl (lv_at hl 1 rfl) ?_
          refine va_mmax hx hb (hml.trans hl.1.symm) hown hw3 hw4 hw5 hw6 (Nat.le_of_ble_eq_true rfl) (Nat.le_of_ble_eq_true rfl) (Nat.le_of_ble_eq_true rfl) (Nat.le_of_ble_eq_true rfl) dX7_readSeed_94 ?_
          refine lv_iload hx hb dX7_readSeed_97 (lv_at hl 0 rfl) ?_
          obtain ⟨q37, hq37, hf⟩ := bd_some hf
          refine kr_W (st1 := []) (va_runV (As := [.int a1, .int q4.1, .int (if (0 : Int32) < q6 then q6 else (0 : Int32)), .int q35.1]) (rest := []) ⟨hx, hb, hml, hown, hts⟩ (ct_X7_item l n g m_now m_kept m_aside m_isKept m_found m_steps m_queue m_lives m_treads m_tape m_taped q35.2.1 q35.2.2.1 q35.2.2.2.1 q35.2.2.2.2.1 q35.2.2.2.2.2 m_items m_itemMany (m_seedThen + (1 : Int32)) m_groundThen m_widths m_sizes m_numbers m_moved a1 q4.1 (if (0 : Int32) < q6 then q6 else (0 : Int32)) q35.1 q37 hq37) (cwV 4 hts gX7_readSeed_X7_item rfl rfl rfl hd_X7_item ⟨Nat.le_of_ble_eq_true rfl, Nat.le_of_ble_eq_true rfl⟩) ⟨bl_M, va_recv hK hP (ci := 5) (q0 := 0) rfl k_md, pr_M rfl hB hP hS⟩ rfl rfl hl.1 rfl (lv_room (Nat.le_of_ble_eq_true rfl)) dX7_readSeed_99 ⟨Nat.le_refl _, Nat.le_refl _⟩) hS rfl (fun hn38 H locs hP hS => ?_)
          have hP : va_P g.1 vwCl (mw g (m_now, m_kept, m_aside, m_isKept, m_found, m_steps, m_queue, m_lives, m_treads, m_tape, m_taped, q35.2.1, q35.2.2.1, q35.2.2.2.1, q35.2.2.2.2.1, q35.2.2.2.2.2, q37.1, q37.2, (m_seedThen + (1 : Int32)), m_groundThen, m_widths, m_sizes, m_numbers, m_moved)) H := hP
          have hres : (q35.2.1, q35.2.2.1, q35.2.2.2.1, q35.2.2.2.2.1, q35.2.2.2.2.2, q37.1, q37.2, (m_seedThen + (1 : Int32))) = res := (Option.some.inj hf)
          have hP := w_eq (congrArg (fun z => mw g (m_now, m_kept, m_aside, m_isKept, m_found, m_steps, m_queue, m_lives, m_treads, m_tape, m_taped, z.1, z.2.1, z.2.2.1, z.2.2.2.1, z.2.2.2.2.1, z.2.2.2.2.2.1, z.2.2.2.2.2.2.1, z.2.2.2.2.2.2.2, m_groundThen, m_widths, m_sizes, m_numbers, m_moved)) hres) hP
          exact W.vret hx hb hr (fun t ht hW => ⟨rfl, trivial, by rw [ht]; exact hP, hS.F ht⟩) hS.2.2 dX7_readSeed_102
  · have hf := (if_neg hc1).symm.trans hf
    refine lv_iconst (v := (1 : Int32)) hx hb dX7_readSeed_10 (by decide) ?_
    refine lv_goto (tgt := 15) hx hb dX7_readSeed_11 (by decide) ?_
    obtain ⟨q39, hq39, hf⟩ := bd_some hf
    refine kr_W (st1 := []) (va_runV (As := [.int (1 : Int32)]) (rest := []) ⟨hx, hb, hml, hown, hts⟩ (ct_X7_must l n g m_now m_kept m_aside m_isKept m_found m_steps m_queue m_lives m_treads m_tape m_taped m_begins m_ends m_sort m_value m_isWrong m_items m_itemMany m_seedThen m_groundThen m_widths m_sizes m_numbers m_moved (1 : Int32) q39 hq39) (cwV 1 hts gX7_readSeed_X7_must rfl rfl rfl hd_X7_must ⟨Nat.le_of_ble_eq_true rfl, Nat.le_of_ble_eq_true rfl⟩) ⟨bl_M, va_recv hK hP (ci := 5) (q0 := 0) rfl k_md, pr_M rfl hB hP hS⟩ rfl rfl hl.1 rfl (lv_room (Nat.le_of_ble_eq_true rfl)) dX7_readSeed_15 ⟨Nat.le_refl _, Nat.le_refl _⟩) hS rfl (fun hn40 H locs hP hS => ?_)
    have hP : va_P g.1 vwCl (mw g (m_now, m_kept, m_aside, m_isKept, m_found, m_steps, m_queue, m_lives, m_treads, m_tape, m_taped, q39.1, q39.2.1, q39.2.2.1, q39.2.2.2.1, q39.2.2.2.2, m_items, m_itemMany, m_seedThen, m_groundThen, m_widths, m_sizes, m_numbers, m_moved)) H := hP
    refine lv_aload_n hx hb dX7_readSeed_18 rfl (lv_at hl 0 rfl) ?_
    refine lv_dup hx hb dX7_readSeed_19 rfl ?_
    refine va_get (D := g.1) (ci := 5) (v := .int m_seedThen) (C := RX7) (T := TX7) (N := 27) hx hb hts iwX7 hown hK hP 0 k_md rfl 21 (by decide) hw0 (fun _ h9 => h9) rfl dX7_readSeed_20 ?_
    refine lv_iconst (v := (1 : Int32)) hx hb dX7_readSeed_23 (by decide) ?_
    refine lv_iadd hx hb dX7_readSeed_24 ?_
    refine va_put (D := g.1) (ci := 5) (v := .int (m_seedThen + (1 : Int32))) (ty := .int) (C := RX7) (T := TX7) (N := 27) hx hb hts iwX7 tyX7 tyX7_ok nmX7 hown hK hP (mD hB.2.2.1 _) hS 0 k_md rfl 21 (by decide) hw0 (fun _ h9 => h9) rfl (tyX7_ok 21 (by decide)) rfl rfl (Nat.le_of_ble_eq_true rfl) dX7_readSeed_25 (fun H locs hP _ hS => ?_)
    have hP : va_P g.1 vwCl (mw g (m_now, m_kept, m_aside, m_isKept, m_found, m_steps, m_queue, m_lives, m_treads, m_tape, m_taped, q39.1, q39.2.1, q39.2.2.1, q39.2.2.2.1, q39.2.2.2.2, m_items, m_itemMany, (m_seedThen + (1 : Int32)), m_groundThen, m_widths, m_sizes, m_numbers, m_moved)) H := w_eq (k_set_seedThen (m_seedThen + (1 : Int32))) hP
    refine lv_aload_n hx hb dX7_readSeed_28 rfl (lv_at hl 0 rfl) ?_
    refine lv_iconst (v := (0 : Int32)) hx hb dX7_readSeed_29 (by decide) ?_
    refine lv_bipush (v := (35 : Int32)) hx hb dX7_readSeed_30 (by decide) ?_
    obtain ⟨q41, hq41, hf⟩ := bd_some hf
    refine kr_W (st1 := [.int q41.1]) (va_runV (As := [.int (0 : Int32), .int (35 : Int32)]) (rest := []) ⟨hx, hb, hml, hown, hts⟩ (ct_X7_number l n g m_now m_kept m_aside m_isKept m_found m_steps m_queue m_lives m_treads m_tape m_taped q39.1 q39.2.1 q39.2.2.1 q39.2.2.2.1 q39.2.2.2.2 m_items m_itemMany (m_seedThen + (1 : Int32)) m_groundThen m_widths m_sizes m_numbers m_moved (0 : Int32) (35 : Int32) q41 hq41) (cwV 2 hts gX7_readSeed_X7_number rfl rfl rfl hd_X7_number ⟨Nat.le_of_ble_eq_true rfl, Nat.le_of_ble_eq_true rfl⟩) ⟨bl_M, va_recv hK hP (ci := 5) (q0 := 0) rfl k_md, pr_M rfl hB hP hS⟩ rfl rfl hl.1 rfl (lv_room (Nat.le_of_ble_eq_true rfl)) dX7_readSeed_32 ⟨Nat.le_refl _, Nat.le_refl _⟩) hS rfl (fun hn42 H locs hP hS => ?_)
    have hP : va_P g.1 vwCl (mw g (m_now, m_kept, m_aside, m_isKept, m_found, m_steps, m_queue, m_lives, m_treads, m_tape, m_taped, q41.2.1, q41.2.2.1, q41.2.2.2.1, q41.2.2.2.2.1, q41.2.2.2.2.2, m_items, m_itemMany, (m_seedThen + (1 : Int32)), m_groundThen, m_widths, m_sizes, m_numbers, m_moved)) H := hP
    refine lv_istore_n (lv' := [(2, .int q41.1), (0, .ref (gm g 0)), (1, .int a1)]) hx hb dX7_readSeed_35 rfl hl (by decide) rfl (fun ls hl => ?_)
    refine lv_aload_n hx hb dX7_readSeed_36 rfl (lv_at hl 1 rfl) ?_
    refine lv_aload_n hx hb dX7_readSeed_37 rfl (lv_at hl 1 rfl) ?_
    refine va_get (D := g.1) (ci := 5) (v := .ref (gm g 11)) (C := RX7) (T := TX7) (N := 27) hx hb hts iwX7 hown hK hP 0 k_md rfl 17 (by decide) hw1 (fun _ h9 => h9) rfl dX7_readSeed_38 ?_
    obtain ⟨q43, hq43, hf⟩ := bd_some hf
    refine kr_S (st1 := [.int q43]) (va_runV (As := [.ref (gm g 11)]) (rest := []) ⟨hx, hb, hml, hown, hts⟩ (ct_X7_wordOf l n g m_now m_kept m_aside m_isKept m_found m_steps m_queue m_lives m_treads m_tape m_taped q41.2.1 q41.2.2.1 q41.2.2.2.1 q41.2.2.2.2.1 q41.2.2.2.2.2 m_items m_itemMany (m_seedThen + (1 : Int32)) m_groundThen m_widths m_sizes m_numbers m_moved 11 10 4 (fun _ => k_headingNames) (by decide) q43 hq43) (cwV 1 hts gX7_readSeed_X7_wordOf rfl rfl rfl hd_X7_wordOf ⟨Nat.le_of_ble_eq_true rfl, Nat.le_of_ble_eq_true rfl⟩) ⟨bl_M, va_recv hK hP (ci := 5) (q0 := 0) rfl k_md, pr_M rfl hB hP hS⟩ rfl rfl hl.1 rfl (lv_room (Nat.le_of_ble_eq_true rfl)) dX7_readSeed_41 ⟨Nat.le_refl _, Nat.le_refl _⟩) rfl (fun hn44 => ?_)
    refine lv_istore_n (lv' := [(3, .int q43), (2, .int q41.1), (0, .ref (gm g 0)), (1, .int a1)]) hx hb dX7_readSeed_44 rfl hl (by decide) rfl (fun ls hl => ?_)
    refine lv_iload_n hx hb dX7_readSeed_45 rfl (lv_at hl 0 rfl) ?_
    refine lv_if_lt (tgt := 54) hx hb dX7_readSeed_46 (by decide) (fun hc45 => ?_) (fun hc45 => ?_)
    · have hf := (if_pos hc45).symm.trans hf
      refine lv_iconst (v := (0 : Int32)) hx hb dX7_readSeed_54 (by decide) ?_
      refine lv_istore (lv' := [(4, .int (0 : Int32)), (3, .int q43), (2, .int q41.1), (0, .ref (gm g 0)), (1, .int a1)]) hx hb dX7_readSeed_55 hl (by decide) rfl (fun ls hl => ?_)
      refine lv_aload_n hx hb dX7_readSeed_57 rfl (lv_at hl 3 rfl) ?_
      refine va_get (D := g.1) (ci := 5) (v := .int q41.2.2.2.2.2) (C := RX7) (T := TX7) (N := 27) hx hb hts iwX7 hown hK hP 0 k_md rfl 15 (by decide) hw2 (fun _ h9 => h9) rfl dX7_readSeed_58 ?_
      refine lv_if_ne (tgt := 89) hx hb dX7_readSeed_61 (by decide) (fun hc46 => ?_) (fun hc46 => ?_)
      · have hf := (if_neg hc46).symm.trans hf
        refine lv_aload_n hx hb dX7_readSeed_89 rfl (lv_at hl 3 rfl) ?_
        refine lv_iload_n hx hb dX7_readSeed_90 rfl (lv_at hl 4 rfl) ?_
        refine lv_iload_n hx hb dX7_readSeed_91 rfl (lv_at hl 2 rfl) ?_
        refine lv_iconst (v := (0 : Int32)) hx hb dX7_readSeed_92 (by decide) ?_
        refine lv_iload_n hx hb dX7_readSeed_93 rfl (lv_at hl 1 rfl) ?_
        refine va_mmax hx hb (hml.trans hl.1.symm) hown hw3 hw4 hw5 hw6 (Nat.le_of_ble_eq_true rfl) (Nat.le_of_ble_eq_true rfl) (Nat.le_of_ble_eq_true rfl) (Nat.le_of_ble_eq_true rfl) dX7_readSeed_94 ?_
        refine lv_iload hx hb dX7_readSeed_97 (lv_at hl 0 rfl) ?_
        obtain ⟨q47, hq47, hf⟩ := bd_some hf
        refine kr_W (st1 := []) (va_runV (As := [.int a1, .int q41.1, .int (if (0 : Int32) < q43 then q43 else (0 : Int32)), .int (0 : Int32)]) (rest := []) ⟨hx, hb, hml, hown, hts⟩ (ct_X7_item l n g m_now m_kept m_aside m_isKept m_found m_steps m_queue m_lives m_treads m_tape m_taped q41.2.1 q41.2.2.1 q41.2.2.2.1 q41.2.2.2.2.1 q41.2.2.2.2.2 m_items m_itemMany (m_seedThen + (1 : Int32)) m_groundThen m_widths m_sizes m_numbers m_moved a1 q41.1 (if (0 : Int32) < q43 then q43 else (0 : Int32)) (0 : Int32) q47 hq47) (cwV 4 hts gX7_readSeed_X7_item rfl rfl rfl hd_X7_item ⟨Nat.le_of_ble_eq_true rfl, Nat.le_of_ble_eq_true rfl⟩) ⟨bl_M, va_recv hK hP (ci := 5) (q0 := 0) rfl k_md, pr_M rfl hB hP hS⟩ rfl rfl hl.1 rfl (lv_room (Nat.le_of_ble_eq_true rfl)) dX7_readSeed_99 ⟨Nat.le_refl _, Nat.le_refl _⟩) hS rfl (fun hn48 H locs hP hS => ?_)
        have hP : va_P g.1 vwCl (mw g (m_now, m_kept, m_aside, m_isKept, m_found, m_steps, m_queue, m_lives, m_treads, m_tape, m_taped, q41.2.1, q41.2.2.1, q41.2.2.2.1, q41.2.2.2.2.1, q41.2.2.2.2.2, q47.1, q47.2, (m_seedThen + (1 : Int32)), m_groundThen, m_widths, m_sizes, m_numbers, m_moved)) H := hP
        have hres : (q41.2.1, q41.2.2.1, q41.2.2.2.1, q41.2.2.2.2.1, q41.2.2.2.2.2, q47.1, q47.2, (m_seedThen + (1 : Int32))) = res := (Option.some.inj hf)
        have hP := w_eq (congrArg (fun z => mw g (m_now, m_kept, m_aside, m_isKept, m_found, m_steps, m_queue, m_lives, m_treads, m_tape, m_taped, z.1, z.2.1, z.2.2.1, z.2.2.2.1, z.2.2.2.2.1, z.2.2.2.2.2.1, z.2.2.2.2.2.2.1, z.2.2.2.2.2.2.2, m_groundThen, m_widths, m_sizes, m_numbers, m_moved)) hres) hP
        exact W.vret hx hb hr (fun t ht hW => ⟨rfl, trivial, by rw [ht]; exact hP, hS.F ht⟩) hS.2.2 dX7_readSeed_102
      · have hf := (if_pos hc46).symm.trans hf
        refine lv_aload_n hx hb dX7_readSeed_64 rfl (lv_at hl 3 rfl) ?_
        refine kr_ldcwS hx hb hown (q := mK g 15) (hB.2.2.2.1 ("SownPathsModel", 347, "aged", 15) (by decide +kernel)) dX7_readSeed_65 ?_
        obtain ⟨q49, hq49, hf⟩ := bd_some hf
        refine kr_S (st1 := [.int q49]) (va_runV (As := [.ref (mK g 15)]) (rest := []) ⟨hx, hb, hml, hown, hts⟩ (ct_X7_isWord l n g m_now m_kept m_aside m_isKept m_found m_steps m_queue m_lives m_treads m_tape m_taped q41.2.1 q41.2.2.1 q41.2.2.2.1 q41.2.2.2.2.1 q41.2.2.2.2.2 m_items m_itemMany (m_seedThen + (1 : Int32)) m_groundThen m_widths m_sizes m_numbers m_moved 15 (by decide) q49 hq49) (cwV 1 hts gX7_readSeed_X7_isWord rfl rfl rfl hd_X7_isWord ⟨Nat.le_of_ble_eq_true rfl, Nat.le_of_ble_eq_true rfl⟩) ⟨bl_M, va_recv hK hP (ci := 5) (q0 := 0) rfl k_md, pr_M rfl hB hP hS⟩ rfl rfl hl.1 rfl (lv_room (Nat.le_of_ble_eq_true rfl)) dX7_readSeed_68 ⟨Nat.le_refl _, Nat.le_refl _⟩) rfl (fun hn50 => ?_)
        refine lv_if_eq (tgt := 89) hx hb dX7_readSeed_71 (by decide) (fun hc51 => ?_) (fun hc51 => ?_)
        · have hf := (if_pos hc51).symm.trans hf
          refine lv_aload_n hx hb dX7_readSeed_89 rfl (lv_at hl 3 rfl) ?_
          refine lv_iload_n hx hb dX7_readSeed_90 rfl (lv_at hl 4 rfl) ?_
          refine lv_iload_n hx hb dX7_readSeed_91 rfl (lv_at hl 2 rfl) ?_
          refine lv_iconst (v := (0 : Int32)) hx hb dX7_readSeed_92 (by decide) ?_
          refine lv_iload_n hx hb dX7_readSeed_93 rfl (lv_at hl 1 rfl) ?_
          refine va_mmax hx hb (hml.trans hl.1.symm) hown hw3 hw4 hw5 hw6 (Nat.le_of_ble_eq_true rfl) (Nat.le_of_ble_eq_true rfl) (Nat.le_of_ble_eq_true rfl) (Nat.le_of_ble_eq_true rfl) dX7_readSeed_94 ?_
          refine lv_iload hx hb dX7_readSeed_97 (lv_at hl 0 rfl) ?_
          obtain ⟨q52, hq52, hf⟩ := bd_some hf
          refine kr_W (st1 := []) (va_runV (As := [.int a1, .int q41.1, .int (if (0 : Int32) < q43 then q43 else (0 : Int32)), .int (0 : Int32)]) (rest := []) ⟨hx, hb, hml, hown, hts⟩ (ct_X7_item l n g m_now m_kept m_aside m_isKept m_found m_steps m_queue m_lives m_treads m_tape m_taped q41.2.1 q41.2.2.1 q41.2.2.2.1 q41.2.2.2.2.1 q41.2.2.2.2.2 m_items m_itemMany (m_seedThen + (1 : Int32)) m_groundThen m_widths m_sizes m_numbers m_moved a1 q41.1 (if (0 : Int32) < q43 then q43 else (0 : Int32)) (0 : Int32) q52 hq52) (cwV 4 hts gX7_readSeed_X7_item rfl rfl rfl hd_X7_item ⟨Nat.le_of_ble_eq_true rfl, Nat.le_of_ble_eq_true rfl⟩) ⟨bl_M, va_recv hK hP (ci := 5) (q0 := 0) rfl k_md, pr_M rfl hB hP hS⟩ rfl rfl hl.1 rfl (lv_room (Nat.le_of_ble_eq_true rfl)) dX7_readSeed_99 ⟨Nat.le_refl _, Nat.le_refl _⟩) hS rfl (fun hn53 H locs hP hS => ?_)
          have hP : va_P g.1 vwCl (mw g (m_now, m_kept, m_aside, m_isKept, m_found, m_steps, m_queue, m_lives, m_treads, m_tape, m_taped, q41.2.1, q41.2.2.1, q41.2.2.2.1, q41.2.2.2.2.1, q41.2.2.2.2.2, q52.1, q52.2, (m_seedThen + (1 : Int32)), m_groundThen, m_widths, m_sizes, m_numbers, m_moved)) H := hP
          have hres : (q41.2.1, q41.2.2.1, q41.2.2.2.1, q41.2.2.2.2.1, q41.2.2.2.2.2, q52.1, q52.2, (m_seedThen + (1 : Int32))) = res := (Option.some.inj hf)
          have hP := w_eq (congrArg (fun z => mw g (m_now, m_kept, m_aside, m_isKept, m_found, m_steps, m_queue, m_lives, m_treads, m_tape, m_taped, z.1, z.2.1, z.2.2.1, z.2.2.2.1, z.2.2.2.2.1, z.2.2.2.2.2.1, z.2.2.2.2.2.2.1, z.2.2.2.2.2.2.2, m_groundThen, m_widths, m_sizes, m_numbers, m_moved)) hres) hP
          exact W.vret hx hb hr (fun t ht hW => ⟨rfl, trivial, by rw [ht]; exact hP, hS.F ht⟩) hS.2.2 dX7_readSeed_102
        · have hf := (if_neg hc51).symm.trans hf
          refine lv_aload_n hx hb dX7_readSeed_74 rfl (lv_at hl 3 rfl) ?_
          refine lv_iconst (v := (1 : Int32)) hx hb dX7_readSeed_75 (by decide) ?_
          obtain ⟨q54, hq54, hf⟩ := bd_some hf
          refine kr_W (st1 := []) (va_runV (As := [.int (1 : Int32)]) (rest := []) ⟨hx, hb, hml, hown, hts⟩ (ct_X7_must l n g m_now m_kept m_aside m_isKept m_found m_steps m_queue m_lives m_treads m_tape m_taped q41.2.1 q41.2.2.1 q41.2.2.2.1 q41.2.2.2.2.1 q41.2.2.2.2.2 m_items m_itemMany (m_seedThen + (1 : Int32)) m_groundThen m_widths m_sizes m_numbers m_moved (1 : Int32) q54 hq54) (cwV 1 hts gX7_readSeed_X7_must rfl rfl rfl hd_X7_must ⟨Nat.le_of_ble_eq_true rfl, Nat.le_of_ble_eq_true rfl⟩) ⟨bl_M, va_recv hK hP (ci := 5) (q0 := 0) rfl k_md, pr_M rfl hB hP hS⟩ rfl rfl hl.1 rfl (lv_room (Nat.le_of_ble_eq_true rfl)) dX7_readSeed_76 ⟨Nat.le_refl _, Nat.le_refl _⟩) hS rfl (fun hn55 H locs hP hS => ?_)
          have hP : va_P g.1 vwCl (mw g (m_now, m_kept, m_aside, m_isKept, m_found, m_steps, m_queue, m_lives, m_treads, m_tape, m_taped, q54.1, q54.2.1, q54.2.2.1, q54.2.2.2.1, q54.2.2.2.2, m_items, m_itemMany, (m_seedThen + (1 : Int32)), m_groundThen, m_widths, m_sizes, m_numbers, m_moved)) H := hP
          refine lv_aload_n hx hb dX7_readSeed_79 rfl (lv_at hl 3 rfl) ?_
          refine lv_iconst (v := (0 : Int32)) hx hb dX7_readSeed_80 (by decide) ?_
          refine lv_sipush (v := (999 : Int32)) hx hb dX7_readSeed_81 (by decide) ?_
          obtain ⟨q56, hq56, hf⟩ := bd_some hf
          refine kr_W (st1 := [.int q56.1]) (va_runV (As := [.int (0 : Int32), .int (999 : Int32)]) (rest := []) ⟨hx, hb, hml, hown, hts⟩ (ct_X7_number l n g m_now m_kept m_aside m_isKept m_found m_steps m_queue m_lives m_treads m_tape m_taped q54.1 q54.2.1 q54.2.2.1 q54.2.2.2.1 q54.2.2.2.2 m_items m_itemMany (m_seedThen + (1 : Int32)) m_groundThen m_widths m_sizes m_numbers m_moved (0 : Int32) (999 : Int32) q56 hq56) (cwV 2 hts gX7_readSeed_X7_number rfl rfl rfl hd_X7_number ⟨Nat.le_of_ble_eq_true rfl, Nat.le_of_ble_eq_true rfl⟩) ⟨bl_M, va_recv hK hP (ci := 5) (q0 := 0) rfl k_md, pr_M rfl hB hP hS⟩ rfl rfl hl.1 rfl (lv_room (Nat.le_of_ble_eq_true rfl)) dX7_readSeed_84 ⟨Nat.le_refl _, Nat.le_refl _⟩) hS rfl (fun hn57 H locs hP hS => ?_)
          have hP : va_P g.1 vwCl (mw g (m_now, m_kept, m_aside, m_isKept, m_found, m_steps, m_queue, m_lives, m_treads, m_tape, m_taped, q56.2.1, q56.2.2.1, q56.2.2.2.1, q56.2.2.2.2.1, q56.2.2.2.2.2, m_items, m_itemMany, (m_seedThen + (1 : Int32)), m_groundThen, m_widths, m_sizes, m_numbers, m_moved)) H := hP
          refine lv_istore (lv' := [(4, .int q56.1), (3, .int q43), (2, .int q41.1), (0, .ref (gm g 0)), (1, .int a1)]) hx hb dX7_readSeed_87 hl (by decide) rfl (fun ls hl => ?_)
          refine lv_aload_n hx hb dX7_readSeed_89 rfl (lv_at hl 3 rfl) ?_
          refine lv_iload_n hx hb dX7_readSeed_90 rfl (lv_at hl 4 rfl) ?_
          refine lv_iload_n hx hb dX7_readSeed_91 rfl (lv_at hl 2 rfl) ?_
          refine lv_iconst (v := (0 : Int32)) hx hb dX7_readSeed_92 (by decide) ?_
          refine lv_iload_n hx hb dX7_readSeed_93 rfl (lv_at hl 1 rfl) ?_
          refine va_mmax hx hb (hml.trans hl.1.symm) hown hw3 hw4 hw5 hw6 (Nat.le_of_ble_eq_true rfl) (Nat.le_of_ble_eq_true rfl) (Nat.le_of_ble_eq_true rfl) (Nat.le_of_ble_eq_true rfl) dX7_readSeed_94 ?_
          refine lv_iload hx hb dX7_readSeed_97 (lv_at hl 0 rfl) ?_
          obtain ⟨q58, hq58, hf⟩ := bd_some hf
          refine kr_W (st1 := []) (va_runV (As := [.int a1, .int q41.1, .int (if (0 : Int32) < q43 then q43 else (0 : Int32)), .int q56.1]) (rest := []) ⟨hx, hb, hml, hown, hts⟩ (ct_X7_item l n g m_now m_kept m_aside m_isKept m_found m_steps m_queue m_lives m_treads m_tape m_taped q56.2.1 q56.2.2.1 q56.2.2.2.1 q56.2.2.2.2.1 q56.2.2.2.2.2 m_items m_itemMany (m_seedThen + (1 : Int32)) m_groundThen m_widths m_sizes m_numbers m_moved a1 q41.1 (if (0 : Int32) < q43 then q43 else (0 : Int32)) q56.1 q58 hq58) (cwV 4 hts gX7_readSeed_X7_item rfl rfl rfl hd_X7_item ⟨Nat.le_of_ble_eq_true rfl, Nat.le_of_ble_eq_true rfl⟩) ⟨bl_M, va_recv hK hP (ci := 5) (q0 := 0) rfl k_md, pr_M rfl hB hP hS⟩ rfl rfl hl.1 rfl (lv_room (Nat.le_of_ble_eq_true rfl)) dX7_readSeed_99 ⟨Nat.le_refl _, Nat.le_refl _⟩) hS rfl (fun hn59 H locs hP hS => ?_)
          have hP : va_P g.1 vwCl (mw g (m_now, m_kept, m_aside, m_isKept, m_found, m_steps, m_queue, m_lives, m_treads, m_tape, m_taped, q56.2.1, q56.2.2.1, q56.2.2.2.1, q56.2.2.2.2.1, q56.2.2.2.2.2, q58.1, q58.2, (m_seedThen + (1 : Int32)), m_groundThen, m_widths, m_sizes, m_numbers, m_moved)) H := hP
          have hres : (q56.2.1, q56.2.2.1, q56.2.2.2.1, q56.2.2.2.2.1, q56.2.2.2.2.2, q58.1, q58.2, (m_seedThen + (1 : Int32))) = res := (Option.some.inj hf)
          have hP := w_eq (congrArg (fun z => mw g (m_now, m_kept, m_aside, m_isKept, m_found, m_steps, m_queue, m_lives, m_treads, m_tape, m_taped, z.1, z.2.1, z.2.2.1, z.2.2.2.1, z.2.2.2.2.1, z.2.2.2.2.2.1, z.2.2.2.2.2.2.1, z.2.2.2.2.2.2.2, m_groundThen, m_widths, m_sizes, m_numbers, m_moved)) hres) hP
          exact W.vret hx hb hr (fun t ht hW => ⟨rfl, trivial, by rw [ht]; exact hP, hS.F ht⟩) hS.2.2 dX7_readSeed_102
    · have hf := (if_neg hc45).symm.trans hf
      refine lv_aload_n hx hb dX7_readSeed_49 rfl (lv_at hl 2 rfl) ?_
      refine lv_iconst (v := (1 : Int32)) hx hb dX7_readSeed_50 (by decide) ?_
      obtain ⟨q60, hq60, hf⟩ := bd_some hf
      refine kr_W (st1 := []) (va_runV (As := [.int (1 : Int32)]) (rest := []) ⟨hx, hb, hml, hown, hts⟩ (ct_X7_must l n g m_now m_kept m_aside m_isKept m_found m_steps m_queue m_lives m_treads m_tape m_taped q41.2.1 q41.2.2.1 q41.2.2.2.1 q41.2.2.2.2.1 q41.2.2.2.2.2 m_items m_itemMany (m_seedThen + (1 : Int32)) m_groundThen m_widths m_sizes m_numbers m_moved (1 : Int32) q60 hq60) (cwV 1 hts gX7_readSeed_X7_must rfl rfl rfl hd_X7_must ⟨Nat.le_of_ble_eq_true rfl, Nat.le_of_ble_eq_true rfl⟩) ⟨bl_M, va_recv hK hP (ci := 5) (q0 := 0) rfl k_md, pr_M rfl hB hP hS⟩ rfl rfl hl.1 rfl (lv_room (Nat.le_of_ble_eq_true rfl)) dX7_readSeed_51 ⟨Nat.le_refl _, Nat.le_refl _⟩) hS rfl (fun hn61 H locs hP hS => ?_)
      have hP : va_P g.1 vwCl (mw g (m_now, m_kept, m_aside, m_isKept, m_found, m_steps, m_queue, m_lives, m_treads, m_tape, m_taped, q60.1, q60.2.1, q60.2.2.1, q60.2.2.2.1, q60.2.2.2.2, m_items, m_itemMany, (m_seedThen + (1 : Int32)), m_groundThen, m_widths, m_sizes, m_numbers, m_moved)) H := hP
      refine lv_iconst (v := (0 : Int32)) hx hb dX7_readSeed_54 (by decide) ?_
      refine lv_istore (lv' := [(4, .int (0 : Int32)), (3, .int q43), (2, .int q41.1), (0, .ref (gm g 0)), (1, .int a1)]) hx hb dX7_readSeed_55 hl (by decide) rfl (fun ls hl => ?_)
      refine lv_aload_n hx hb dX7_readSeed_57 rfl (lv_at hl 3 rfl) ?_
      refine va_get (D := g.1) (ci := 5) (v := .int q60.2.2.2.2) (C := RX7) (T := TX7) (N := 27) hx hb hts iwX7 hown hK hP 0 k_md rfl 15 (by decide) hw2 (fun _ h9 => h9) rfl dX7_readSeed_58 ?_
      refine lv_if_ne (tgt := 89) hx hb dX7_readSeed_61 (by decide) (fun hc62 => ?_) (fun hc62 => ?_)
      · have hf := (if_neg hc62).symm.trans hf
        refine lv_aload_n hx hb dX7_readSeed_89 rfl (lv_at hl 3 rfl) ?_
        refine lv_iload_n hx hb dX7_readSeed_90 rfl (lv_at hl 4 rfl) ?_
        refine lv_iload_n hx hb dX7_readSeed_91 rfl (lv_at hl 2 rfl) ?_
        refine lv_iconst (v := (0 : Int32)) hx hb dX7_readSeed_92 (by decide) ?_
        refine lv_iload_n hx hb dX7_readSeed_93 rfl (lv_at hl 1 rfl) ?_
        refine va_mmax hx hb (hml.trans hl.1.symm) hown hw3 hw4 hw5 hw6 (Nat.le_of_ble_eq_true rfl) (Nat.le_of_ble_eq_true rfl) (Nat.le_of_ble_eq_true rfl) (Nat.le_of_ble_eq_true rfl) dX7_readSeed_94 ?_
        refine lv_iload hx hb dX7_readSeed_97 (lv_at hl 0 rfl) ?_
        obtain ⟨q63, hq63, hf⟩ := bd_some hf
        refine kr_W (st1 := []) (va_runV (As := [.int a1, .int q41.1, .int (if (0 : Int32) < q43 then q43 else (0 : Int32)), .int (0 : Int32)]) (rest := []) ⟨hx, hb, hml, hown, hts⟩ (ct_X7_item l n g m_now m_kept m_aside m_isKept m_found m_steps m_queue m_lives m_treads m_tape m_taped q60.1 q60.2.1 q60.2.2.1 q60.2.2.2.1 q60.2.2.2.2 m_items m_itemMany (m_seedThen + (1 : Int32)) m_groundThen m_widths m_sizes m_numbers m_moved a1 q41.1 (if (0 : Int32) < q43 then q43 else (0 : Int32)) (0 : Int32) q63 hq63) (cwV 4 hts gX7_readSeed_X7_item rfl rfl rfl hd_X7_item ⟨Nat.le_of_ble_eq_true rfl, Nat.le_of_ble_eq_true rfl⟩) ⟨bl_M, va_recv hK hP (ci := 5) (q0 := 0) rfl k_md, pr_M rfl hB hP hS⟩ rfl rfl hl.1 rfl (lv_room (Nat.le_of_ble_eq_true rfl)) dX7_readSeed_99 ⟨Nat.le_refl _, Nat.le_refl _⟩) hS rfl (fun hn64 H locs hP hS => ?_)
        have hP : va_P g.1 vwCl (mw g (m_now, m_kept, m_aside, m_isKept, m_found, m_steps, m_queue, m_lives, m_treads, m_tape, m_taped, q60.1, q60.2.1, q60.2.2.1, q60.2.2.2.1, q60.2.2.2.2, q63.1, q63.2, (m_seedThen + (1 : Int32)), m_groundThen, m_widths, m_sizes, m_numbers, m_moved)) H := hP
        have hres : (q60.1, q60.2.1, q60.2.2.1, q60.2.2.2.1, q60.2.2.2.2, q63.1, q63.2, (m_seedThen + (1 : Int32))) = res := (Option.some.inj hf)
        have hP := w_eq (congrArg (fun z => mw g (m_now, m_kept, m_aside, m_isKept, m_found, m_steps, m_queue, m_lives, m_treads, m_tape, m_taped, z.1, z.2.1, z.2.2.1, z.2.2.2.1, z.2.2.2.2.1, z.2.2.2.2.2.1, z.2.2.2.2.2.2.1, z.2.2.2.2.2.2.2, m_groundThen, m_widths, m_sizes, m_numbers, m_moved)) hres) hP
        exact W.vret hx hb hr (fun t ht hW => ⟨rfl, trivial, by rw [ht]; exact hP, hS.F ht⟩) hS.2.2 dX7_readSeed_102
      · have hf := (if_pos hc62).symm.trans hf
        refine lv_aload_n hx hb dX7_readSeed_64 rfl (lv_at hl 3 rfl) ?_
        refine kr_ldcwS hx hb hown (q := mK g 15) (hB.2.2.2.1 ("SownPathsModel", 347, "aged", 15) (by decide +kernel)) dX7_readSeed_65 ?_
        obtain ⟨q65, hq65, hf⟩ := bd_some hf
        refine kr_S (st1 := [.int q65]) (va_runV (As := [.ref (mK g 15)]) (rest := []) ⟨hx, hb, hml, hown, hts⟩ (ct_X7_isWord l n g m_now m_kept m_aside m_isKept m_found m_steps m_queue m_lives m_treads m_tape m_taped q60.1 q60.2.1 q60.2.2.1 q60.2.2.2.1 q60.2.2.2.2 m_items m_itemMany (m_seedThen + (1 : Int32)) m_groundThen m_widths m_sizes m_numbers m_moved 15 (by decide) q65 hq65) (cwV 1 hts gX7_readSeed_X7_isWord rfl rfl rfl hd_X7_isWord ⟨Nat.le_of_ble_eq_true rfl, Nat.le_of_ble_eq_true rfl⟩) ⟨bl_M, va_recv hK hP (ci := 5) (q0 := 0) rfl k_md, pr_M rfl hB hP hS⟩ rfl rfl hl.1 rfl (lv_room (Nat.le_of_ble_eq_true rfl)) dX7_readSeed_68 ⟨Nat.le_refl _, Nat.le_refl _⟩) rfl (fun hn66 => ?_)
        refine lv_if_eq (tgt := 89) hx hb dX7_readSeed_71 (by decide) (fun hc67 => ?_) (fun hc67 => ?_)
        · have hf := (if_pos hc67).symm.trans hf
          refine lv_aload_n hx hb dX7_readSeed_89 rfl (lv_at hl 3 rfl) ?_
          refine lv_iload_n hx hb dX7_readSeed_90 rfl (lv_at hl 4 rfl) ?_
          refine lv_iload_n hx hb dX7_readSeed_91 rfl (lv_at hl 2 rfl) ?_
          refine lv_iconst (v := (0 : Int32)) hx hb dX7_readSeed_92 (by decide) ?_
          refine lv_iload_n hx hb dX7_readSeed_93 rfl (lv_at hl 1 rfl) ?_
          refine va_mmax hx hb (hml.trans hl.1.symm) hown hw3 hw4 hw5 hw6 (Nat.le_of_ble_eq_true rfl) (Nat.le_of_ble_eq_true rfl) (Nat.le_of_ble_eq_true rfl) (Nat.le_of_ble_eq_true rfl) dX7_readSeed_94 ?_
          refine lv_iload hx hb dX7_readSeed_97 (lv_at hl 0 rfl) ?_
          obtain ⟨q68, hq68, hf⟩ := bd_some hf
          refine kr_W (st1 := []) (va_runV (As := [.int a1, .int q41.1, .int (if (0 : Int32) < q43 then q43 else (0 : Int32)), .int (0 : Int32)]) (rest := []) ⟨hx, hb, hml, hown, hts⟩ (ct_X7_item l n g m_now m_kept m_aside m_isKept m_found m_steps m_queue m_lives m_treads m_tape m_taped q60.1 q60.2.1 q60.2.2.1 q60.2.2.2.1 q60.2.2.2.2 m_items m_itemMany (m_seedThen + (1 : Int32)) m_groundThen m_widths m_sizes m_numbers m_moved a1 q41.1 (if (0 : Int32) < q43 then q43 else (0 : Int32)) (0 : Int32) q68 hq68) (cwV 4 hts gX7_readSeed_X7_item rfl rfl rfl hd_X7_item ⟨Nat.le_of_ble_eq_true rfl, Nat.le_of_ble_eq_true rfl⟩) ⟨bl_M, va_recv hK hP (ci := 5) (q0 := 0) rfl k_md, pr_M rfl hB hP hS⟩ rfl rfl hl.1 rfl (lv_room (Nat.le_of_ble_eq_true rfl)) dX7_readSeed_99 ⟨Nat.le_refl _, Nat.le_refl _⟩) hS rfl (fun hn69 H locs hP hS => ?_)
          have hP : va_P g.1 vwCl (mw g (m_now, m_kept, m_aside, m_isKept, m_found, m_steps, m_queue, m_lives, m_treads, m_tape, m_taped, q60.1, q60.2.1, q60.2.2.1, q60.2.2.2.1, q60.2.2.2.2, q68.1, q68.2, (m_seedThen + (1 : Int32)), m_groundThen, m_widths, m_sizes, m_numbers, m_moved)) H := hP
          have hres : (q60.1, q60.2.1, q60.2.2.1, q60.2.2.2.1, q60.2.2.2.2, q68.1, q68.2, (m_seedThen + (1 : Int32))) = res := (Option.some.inj hf)
          have hP := w_eq (congrArg (fun z => mw g (m_now, m_kept, m_aside, m_isKept, m_found, m_steps, m_queue, m_lives, m_treads, m_tape, m_taped, z.1, z.2.1, z.2.2.1, z.2.2.2.1, z.2.2.2.2.1, z.2.2.2.2.2.1, z.2.2.2.2.2.2.1, z.2.2.2.2.2.2.2, m_groundThen, m_widths, m_sizes, m_numbers, m_moved)) hres) hP
          exact W.vret hx hb hr (fun t ht hW => ⟨rfl, trivial, by rw [ht]; exact hP, hS.F ht⟩) hS.2.2 dX7_readSeed_102
        · have hf := (if_neg hc67).symm.trans hf
          refine lv_aload_n hx hb dX7_readSeed_74 rfl (lv_at hl 3 rfl) ?_
          refine lv_iconst (v := (1 : Int32)) hx hb dX7_readSeed_75 (by decide) ?_
          obtain ⟨q70, hq70, hf⟩ := bd_some hf
          refine kr_W (st1 := []) (va_runV (As := [.int (1 : Int32)]) (rest := []) ⟨hx, hb, hml, hown, hts⟩ (ct_X7_must l n g m_now m_kept m_aside m_isKept m_found m_steps m_queue m_lives m_treads m_tape m_taped q60.1 q60.2.1 q60.2.2.1 q60.2.2.2.1 q60.2.2.2.2 m_items m_itemMany (m_seedThen + (1 : Int32)) m_groundThen m_widths m_sizes m_numbers m_moved (1 : Int32) q70 hq70) (cwV 1 hts gX7_readSeed_X7_must rfl rfl rfl hd_X7_must ⟨Nat.le_of_ble_eq_true rfl, Nat.le_of_ble_eq_true rfl⟩) ⟨bl_M, va_recv hK hP (ci := 5) (q0 := 0) rfl k_md, pr_M rfl hB hP hS⟩ rfl rfl hl.1 rfl (lv_room (Nat.le_of_ble_eq_true rfl)) dX7_readSeed_76 ⟨Nat.le_refl _, Nat.le_refl _⟩) hS rfl (fun hn71 H locs hP hS => ?_)
          have hP : va_P g.1 vwCl (mw g (m_now, m_kept, m_aside, m_isKept, m_found, m_steps, m_queue, m_lives, m_treads, m_tape, m_taped, q70.1, q70.2.1, q70.2.2.1, q70.2.2.2.1, q70.2.2.2.2, m_items, m_itemMany, (m_seedThen + (1 : Int32)), m_groundThen, m_widths, m_sizes, m_numbers, m_moved)) H := hP
          refine lv_aload_n hx hb dX7_readSeed_79 rfl (lv_at hl 3 rfl) ?_
          refine lv_iconst (v := (0 : Int32)) hx hb dX7_readSeed_80 (by decide) ?_
          refine lv_sipush (v := (999 : Int32)) hx hb dX7_readSeed_81 (by decide) ?_
          obtain ⟨q72, hq72, hf⟩ := bd_some hf
          refine kr_W (st1 := [.int q72.1]) (va_runV (As := [.int (0 : Int32), .int (999 : Int32)]) (rest := []) ⟨hx, hb, hml, hown, hts⟩ (ct_X7_number l n g m_now m_kept m_aside m_isKept m_found m_steps m_queue m_lives m_treads m_tape m_taped q70.1 q70.2.1 q70.2.2.1 q70.2.2.2.1 q70.2.2.2.2 m_items m_itemMany (m_seedThen + (1 : Int32)) m_groundThen m_widths m_sizes m_numbers m_moved (0 : Int32) (999 : Int32) q72 hq72) (cwV 2 hts gX7_readSeed_X7_number rfl rfl rfl hd_X7_number ⟨Nat.le_of_ble_eq_true rfl, Nat.le_of_ble_eq_true rfl⟩) ⟨bl_M, va_recv hK hP (ci := 5) (q0 := 0) rfl k_md, pr_M rfl hB hP hS⟩ rfl rfl hl.1 rfl (lv_room (Nat.le_of_ble_eq_true rfl)) dX7_readSeed_84 ⟨Nat.le_refl _, Nat.le_refl _⟩) hS rfl (fun hn73 H locs hP hS => ?_)
          have hP : va_P g.1 vwCl (mw g (m_now, m_kept, m_aside, m_isKept, m_found, m_steps, m_queue, m_lives, m_treads, m_tape, m_taped, q72.2.1, q72.2.2.1, q72.2.2.2.1, q72.2.2.2.2.1, q72.2.2.2.2.2, m_items, m_itemMany, (m_seedThen + (1 : Int32)), m_groundThen, m_widths, m_sizes, m_numbers, m_moved)) H := hP
          refine lv_istore (lv' := [(4, .int q72.1), (3, .int q43), (2, .int q41.1), (0, .ref (gm g 0)), (1, .int a1)]) hx hb dX7_readSeed_87 hl (by decide) rfl (fun ls hl => ?_)
          refine lv_aload_n hx hb dX7_readSeed_89 rfl (lv_at hl 3 rfl) ?_
          refine lv_iload_n hx hb dX7_readSeed_90 rfl (lv_at hl 4 rfl) ?_
          refine lv_iload_n hx hb dX7_readSeed_91 rfl (lv_at hl 2 rfl) ?_
          refine lv_iconst (v := (0 : Int32)) hx hb dX7_readSeed_92 (by decide) ?_
          refine lv_iload_n hx hb dX7_readSeed_93 rfl (lv_at hl 1 rfl) ?_
          refine va_mmax hx hb (hml.trans hl.1.symm) hown hw3 hw4 hw5 hw6 (Nat.le_of_ble_eq_true rfl) (Nat.le_of_ble_eq_true rfl) (Nat.le_of_ble_eq_true rfl) (Nat.le_of_ble_eq_true rfl) dX7_readSeed_94 ?_
          refine lv_iload hx hb dX7_readSeed_97 (lv_at hl 0 rfl) ?_
          obtain ⟨q74, hq74, hf⟩ := bd_some hf
          refine kr_W (st1 := []) (va_runV (As := [.int a1, .int q41.1, .int (if (0 : Int32) < q43 then q43 else (0 : Int32)), .int q72.1]) (rest := []) ⟨hx, hb, hml, hown, hts⟩ (ct_X7_item l n g m_now m_kept m_aside m_isKept m_found m_steps m_queue m_lives m_treads m_tape m_taped q72.2.1 q72.2.2.1 q72.2.2.2.1 q72.2.2.2.2.1 q72.2.2.2.2.2 m_items m_itemMany (m_seedThen + (1 : Int32)) m_groundThen m_widths m_sizes m_numbers m_moved a1 q41.1 (if (0 : Int32) < q43 then q43 else (0 : Int32)) q72.1 q74 hq74) (cwV 4 hts gX7_readSeed_X7_item rfl rfl rfl hd_X7_item ⟨Nat.le_of_ble_eq_true rfl, Nat.le_of_ble_eq_true rfl⟩) ⟨bl_M, va_recv hK hP (ci := 5) (q0 := 0) rfl k_md, pr_M rfl hB hP hS⟩ rfl rfl hl.1 rfl (lv_room (Nat.le_of_ble_eq_true rfl)) dX7_readSeed_99 ⟨Nat.le_refl _, Nat.le_refl _⟩) hS rfl (fun hn75 H locs hP hS => ?_)
          have hP : va_P g.1 vwCl (mw g (m_now, m_kept, m_aside, m_isKept, m_found, m_steps, m_queue, m_lives, m_treads, m_tape, m_taped, q72.2.1, q72.2.2.1, q72.2.2.2.1, q72.2.2.2.2.1, q72.2.2.2.2.2, q74.1, q74.2, (m_seedThen + (1 : Int32)), m_groundThen, m_widths, m_sizes, m_numbers, m_moved)) H := hP
          have hres : (q72.2.1, q72.2.2.1, q72.2.2.2.1, q72.2.2.2.2.1, q72.2.2.2.2.2, q74.1, q74.2, (m_seedThen + (1 : Int32))) = res := (Option.some.inj hf)
          have hP := w_eq (congrArg (fun z => mw g (m_now, m_kept, m_aside, m_isKept, m_found, m_steps, m_queue, m_lives, m_treads, m_tape, m_taped, z.1, z.2.1, z.2.2.1, z.2.2.2.1, z.2.2.2.2.1, z.2.2.2.2.2.1, z.2.2.2.2.2.2.1, z.2.2.2.2.2.2.2, m_groundThen, m_widths, m_sizes, m_numbers, m_moved)) hres) hP
          exact W.vret hx hb hr (fun t ht hW => ⟨rfl, trivial, by rw [ht]; exact hP, hS.F ht⟩) hS.2.2 dX7_readSeed_102
set_option maxHeartbeats 4000000 in
set_option maxRecDepth 100000 in
theorem ct_X7_readGround (l : Launch) (n : Nat) (g : GM) (m_now : Nat → Int32) (m_kept : Nat → Int32) (m_aside : Nat → Int32) (m_isKept : Int32) (m_found : Nat → Int32) (m_steps : Nat → Int32) (m_queue : Nat → Int32) (m_lives : Nat → Int32) (m_treads : Nat → Int32) (m_tape : Nat → Int32) (m_taped : Int32) (m_begins : Int32) (m_ends : Int32) (m_sort : Int32) (m_value : Int32) (m_isWrong : Int32) (m_items : Nat → Int32) (m_itemMany : Int32) (m_seedThen : Int32) (m_groundThen : Nat → Int32) (m_widths : Nat → Int32) (m_sizes : Nat → Int32) (m_numbers : Nat → Int32) (m_moved : Nat → Int32) (a1 : Int32) (res : Int32 × Int32 × Int32 × Int32 × Int32 × (Nat → Int32) × Int32 × (Nat → Int32)) (hf : fX7_readGround n a1 m_tape m_taped m_begins m_ends m_sort m_value m_isWrong m_items m_itemMany m_groundThen = some res) : Met l yX7_readGround wsX7_readGround ({ frames := 4, cells := 0, slots := 0, locals := 89 }) (va_Pc [.ref (gm g 0), .int a1] (mI g (m_now, m_kept, m_aside, m_isKept, m_found, m_steps, m_queue, m_lives, m_treads, m_tape, m_taped, m_begins, m_ends, m_sort, m_value, m_isWrong, m_items, m_itemMany, m_seedThen, m_groundThen, m_widths, m_sizes, m_numbers, m_moved))) (qW none True g.1 (mw g (m_now, m_kept, m_aside, m_isKept, m_found, m_steps, m_queue, m_lives, m_treads, m_tape, m_taped, res.1, res.2.1, res.2.2.1, res.2.2.2.1, res.2.2.2.2.1, res.2.2.2.2.2.1, res.2.2.2.2.2.2.1, m_seedThen, res.2.2.2.2.2.2.2, m_widths, m_sizes, m_numbers, m_moved)) (mA g)) 0 0 (mA g) := by
  refine Met.ofW (cc := cX7_readGround) (maxL := 3) (ret := none) (by decide) rfl ?_
  intro p e s m args below meth c s₁ B hml hv
  obtain ⟨rfl, hI⟩ := hv
  have hx := B.exec
  have hb := B.bytes
  have hr := B.returns
  have hts := atoms_spec (ws := wsX7_readGround) B.pre
  have hown : s.vm.findClass RX7 = some m.cls := findClass_of_methodNamed B.named
  have hlocks := B.notSynchronized
  have hP := hI.1
  have hB := hI.2
  have hK := hB.1
  have hNW := hB.2.1
  have hS : va_S (mA g) s.heap s.heap [] := va_S.rf
  have hw0 := hts (.fieldLink RX7 319 "SownPathsModel" "isWrong" "Z") (by decide +kernel)
  have hw1 := hts (.fieldLink RX7 80 "SownPathsModel" "groundThen" "[I") (by decide +kernel)
  have iwX7 : ∀ w ∈ wsX70, w ∈ wsX7_readGround := fun w h => List.mem_cons_of_mem _ (List.mem_append_right _ h)
  have hl := lv_entry ([.ref (gm g 0), .int a1]) (n := 3) (Nat.le_of_ble_eq_true rfl)
  rw [lg_entry_eq]
  generalize (lg_sl ([.ref (gm g 0), .int a1]) ++ List.replicate (3 - (lg_sl ([.ref (gm g 0), .int a1])).length) Slot.unset).toArray = ls at hl ⊢
  have hl : lv_has ls 3 [(0, .ref (gm g 0)), (1, .int a1)] := hl
  unfold fX7_readGround at hf
  refine lv_aload_n hx hb dX7_readGround_0 rfl (lv_at hl 0 rfl) ?_
  refine lv_iconst (v := (1 : Int32)) hx hb dX7_readGround_1 (by decide) ?_
  obtain ⟨q1, hq1, hf⟩ := bd_some hf
  refine kr_W (st1 := []) (va_runV (As := [.int (1 : Int32)]) (rest := []) ⟨hx, hb, hml, hown, hts⟩ (ct_X7_must l n g m_now m_kept m_aside m_isKept m_found m_steps m_queue m_lives m_treads m_tape m_taped m_begins m_ends m_sort m_value m_isWrong m_items m_itemMany m_seedThen m_groundThen m_widths m_sizes m_numbers m_moved (1 : Int32) q1 hq1) (cwV 1 hts gX7_readGround_X7_must rfl rfl rfl hd_X7_must ⟨Nat.le_of_ble_eq_true rfl, Nat.le_of_ble_eq_true rfl⟩) ⟨bl_M, va_recv hK hP (ci := 5) (q0 := 0) rfl k_md, pr_M rfl hB hP hS⟩ rfl rfl hl.1 rfl (lv_room (Nat.le_of_ble_eq_true rfl)) dX7_readGround_2 ⟨Nat.le_refl _, Nat.le_refl _⟩) hS rfl (fun hn2 H locs hP hS => ?_)
  have hP : va_P g.1 vwCl (mw g (m_now, m_kept, m_aside, m_isKept, m_found, m_steps, m_queue, m_lives, m_treads, m_tape, m_taped, q1.1, q1.2.1, q1.2.2.1, q1.2.2.2.1, q1.2.2.2.2, m_items, m_itemMany, m_seedThen, m_groundThen, m_widths, m_sizes, m_numbers, m_moved)) H := hP
  refine lv_aload_n hx hb dX7_readGround_5 rfl (lv_at hl 0 rfl) ?_
  refine lv_iconst (v := (0 : Int32)) hx hb dX7_readGround_6 (by decide) ?_
  refine lv_bipush (v := (35 : Int32)) hx hb dX7_readGround_7 (by decide) ?_
  obtain ⟨q3, hq3, hf⟩ := bd_some hf
  refine kr_W (st1 := [.int q3.1]) (va_runV (As := [.int (0 : Int32), .int (35 : Int32)]) (rest := []) ⟨hx, hb, hml, hown, hts⟩ (ct_X7_number l n g m_now m_kept m_aside m_isKept m_found m_steps m_queue m_lives m_treads m_tape m_taped q1.1 q1.2.1 q1.2.2.1 q1.2.2.2.1 q1.2.2.2.2 m_items m_itemMany m_seedThen m_groundThen m_widths m_sizes m_numbers m_moved (0 : Int32) (35 : Int32) q3 hq3) (cwV 2 hts gX7_readGround_X7_number rfl rfl rfl hd_X7_number ⟨Nat.le_of_ble_eq_true rfl, Nat.le_of_ble_eq_true rfl⟩) ⟨bl_M, va_recv hK hP (ci := 5) (q0 := 0) rfl k_md, pr_M rfl hB hP hS⟩ rfl rfl hl.1 rfl (lv_room (Nat.le_of_ble_eq_true rfl)) dX7_readGround_9 ⟨Nat.le_refl _, Nat.le_refl _⟩) hS rfl (fun hn4 H locs hP hS => ?_)
  have hP : va_P g.1 vwCl (mw g (m_now, m_kept, m_aside, m_isKept, m_found, m_steps, m_queue, m_lives, m_treads, m_tape, m_taped, q3.2.1, q3.2.2.1, q3.2.2.2.1, q3.2.2.2.2.1, q3.2.2.2.2.2, m_items, m_itemMany, m_seedThen, m_groundThen, m_widths, m_sizes, m_numbers, m_moved)) H := hP
  refine lv_istore_n (lv' := [(2, .int q3.1), (0, .ref (gm g 0)), (1, .int a1)]) hx hb dX7_readGround_12 rfl hl (by decide) rfl (fun ls hl => ?_)
  refine lv_aload_n hx hb dX7_readGround_13 rfl (lv_at hl 1 rfl) ?_
  refine va_get (D := g.1) (ci := 5) (v := .int q3.2.2.2.2.2) (C := RX7) (T := TX7) (N := 27) hx hb hts iwX7 hown hK hP 0 k_md rfl 15 (by decide) hw0 (fun _ h9 => h9) rfl dX7_readGround_14 ?_
  refine lv_if_ne (tgt := 27) hx hb dX7_readGround_17 (by decide) (fun hc5 => ?_) (fun hc5 => ?_)
  · have hf := (if_neg hc5).symm.trans hf
    refine lv_aload_n hx hb dX7_readGround_27 rfl (lv_at hl 1 rfl) ?_
    refine lv_bipush (v := (10 : Int32)) hx hb dX7_readGround_28 (by decide) ?_
    refine lv_iload_n hx hb dX7_readGround_30 rfl (lv_at hl 0 rfl) ?_
    refine lv_iload_n hx hb dX7_readGround_31 rfl (lv_at hl 2 rfl) ?_
    refine lv_iconst (v := (0 : Int32)) hx hb dX7_readGround_32 (by decide) ?_
    obtain ⟨q6, hq6, hf⟩ := bd_some hf
    refine kr_W (st1 := []) (va_runV (As := [.int (10 : Int32), .int q3.1, .int a1, .int (0 : Int32)]) (rest := []) ⟨hx, hb, hml, hown, hts⟩ (ct_X7_item l n g m_now m_kept m_aside m_isKept m_found m_steps m_queue m_lives m_treads m_tape m_taped q3.2.1 q3.2.2.1 q3.2.2.2.1 q3.2.2.2.2.1 q3.2.2.2.2.2 m_items m_itemMany m_seedThen m_groundThen m_widths m_sizes m_numbers m_moved (10 : Int32) q3.1 a1 (0 : Int32) q6 hq6) (cwV 4 hts gX7_readGround_X7_item rfl rfl rfl hd_X7_item ⟨Nat.le_of_ble_eq_true rfl, Nat.le_of_ble_eq_true rfl⟩) ⟨bl_M, va_recv hK hP (ci := 5) (q0 := 0) rfl k_md, pr_M rfl hB hP hS⟩ rfl rfl hl.1 rfl (lv_room (Nat.le_of_ble_eq_true rfl)) dX7_readGround_33 ⟨Nat.le_refl _, Nat.le_refl _⟩) hS rfl (fun hn7 H locs hP hS => ?_)
    have hP : va_P g.1 vwCl (mw g (m_now, m_kept, m_aside, m_isKept, m_found, m_steps, m_queue, m_lives, m_treads, m_tape, m_taped, q3.2.1, q3.2.2.1, q3.2.2.2.1, q3.2.2.2.2.1, q3.2.2.2.2.2, q6.1, q6.2, m_seedThen, m_groundThen, m_widths, m_sizes, m_numbers, m_moved)) H := hP
    have hres : (q3.2.1, q3.2.2.1, q3.2.2.2.1, q3.2.2.2.2.1, q3.2.2.2.2.2, q6.1, q6.2, m_groundThen) = res := (Option.some.inj hf)
    have hP := w_eq (congrArg (fun z => mw g (m_now, m_kept, m_aside, m_isKept, m_found, m_steps, m_queue, m_lives, m_treads, m_tape, m_taped, z.1, z.2.1, z.2.2.1, z.2.2.2.1, z.2.2.2.2.1, z.2.2.2.2.2.1, z.2.2.2.2.2.2.1, m_seedThen, z.2.2.2.2.2.2.2, m_widths, m_sizes, m_numbers, m_moved)) hres) hP
    exact W.vret hx hb hr (fun t ht hW => ⟨rfl, trivial, by rw [ht]; exact hP, hS.F ht⟩) hS.2.2 dX7_readGround_36
  · have hf := (if_pos hc5).symm.trans hf
    refine lv_aload_n hx hb dX7_readGround_20 rfl (lv_at hl 1 rfl) ?_
    refine va_get (D := g.1) (ci := 5) (v := .ref (gm g 14)) (C := RX7) (T := TX7) (N := 27) hx hb hts iwX7 hown hK hP 0 k_md rfl 22 (by decide) hw1 (fun _ h9 => h9) rfl dX7_readGround_21 ?_
    refine lv_iload_n hx hb dX7_readGround_24 rfl (lv_at hl 0 rfl) ?_
    refine lv_iload_n hx hb dX7_readGround_25 rfl (lv_at hl 2 rfl) ?_
    obtain ⟨hg8, hf⟩ := gd_some hf
    refine va_iast (f := m_groundThen) hx hb hK hP (mD hB.2.2.1 _) hS 14 0 k_groundThen rfl hg8 dX7_readGround_26 (fun H locs hP _ hS => ?_)
    have hP : va_P g.1 vwCl (mw g (m_now, m_kept, m_aside, m_isKept, m_found, m_steps, m_queue, m_lives, m_treads, m_tape, m_taped, q3.2.1, q3.2.2.1, q3.2.2.2.1, q3.2.2.2.2.1, q3.2.2.2.2.2, m_items, m_itemMany, m_seedThen, (upd m_groundThen q3.1.toNatClampNeg a1), m_widths, m_sizes, m_numbers, m_moved)) H := w_eq (k_set_groundThen (upd m_groundThen q3.1.toNatClampNeg a1)) hP
    refine lv_aload_n hx hb dX7_readGround_27 rfl (lv_at hl 1 rfl) ?_
    refine lv_bipush (v := (10 : Int32)) hx hb dX7_readGround_28 (by decide) ?_
    refine lv_iload_n hx hb dX7_readGround_30 rfl (lv_at hl 0 rfl) ?_
    refine lv_iload_n hx hb dX7_readGround_31 rfl (lv_at hl 2 rfl) ?_
    refine lv_iconst (v := (0 : Int32)) hx hb dX7_readGround_32 (by decide) ?_
    obtain ⟨q9, hq9, hf⟩ := bd_some hf
    refine kr_W (st1 := []) (va_runV (As := [.int (10 : Int32), .int q3.1, .int a1, .int (0 : Int32)]) (rest := []) ⟨hx, hb, hml, hown, hts⟩ (ct_X7_item l n g m_now m_kept m_aside m_isKept m_found m_steps m_queue m_lives m_treads m_tape m_taped q3.2.1 q3.2.2.1 q3.2.2.2.1 q3.2.2.2.2.1 q3.2.2.2.2.2 m_items m_itemMany m_seedThen (upd m_groundThen q3.1.toNatClampNeg a1) m_widths m_sizes m_numbers m_moved (10 : Int32) q3.1 a1 (0 : Int32) q9 hq9) (cwV 4 hts gX7_readGround_X7_item rfl rfl rfl hd_X7_item ⟨Nat.le_of_ble_eq_true rfl, Nat.le_of_ble_eq_true rfl⟩) ⟨bl_M, va_recv hK hP (ci := 5) (q0 := 0) rfl k_md, pr_M rfl hB hP hS⟩ rfl rfl hl.1 rfl (lv_room (Nat.le_of_ble_eq_true rfl)) dX7_readGround_33 ⟨Nat.le_refl _, Nat.le_refl _⟩) hS rfl (fun hn10 H locs hP hS => ?_)
    have hP : va_P g.1 vwCl (mw g (m_now, m_kept, m_aside, m_isKept, m_found, m_steps, m_queue, m_lives, m_treads, m_tape, m_taped, q3.2.1, q3.2.2.1, q3.2.2.2.1, q3.2.2.2.2.1, q3.2.2.2.2.2, q9.1, q9.2, m_seedThen, (upd m_groundThen q3.1.toNatClampNeg a1), m_widths, m_sizes, m_numbers, m_moved)) H := hP
    have hres : (q3.2.1, q3.2.2.1, q3.2.2.2.1, q3.2.2.2.2.1, q3.2.2.2.2.2, q9.1, q9.2, (upd m_groundThen q3.1.toNatClampNeg a1)) = res := (Option.some.inj hf)
    have hP := w_eq (congrArg (fun z => mw g (m_now, m_kept, m_aside, m_isKept, m_found, m_steps, m_queue, m_lives, m_treads, m_tape, m_taped, z.1, z.2.1, z.2.2.1, z.2.2.2.1, z.2.2.2.2.1, z.2.2.2.2.2.1, z.2.2.2.2.2.2.1, m_seedThen, z.2.2.2.2.2.2.2, m_widths, m_sizes, m_numbers, m_moved)) hres) hP
    exact W.vret hx hb hr (fun t ht hW => ⟨rfl, trivial, by rw [ht]; exact hP, hS.F ht⟩) hS.2.2 dX7_readGround_36
set_option maxHeartbeats 4000000 in
set_option maxRecDepth 100000 in
theorem ct_X7_readItem (l : Launch) (n : Nat) (g : GM) (m_now : Nat → Int32) (m_kept : Nat → Int32) (m_aside : Nat → Int32) (m_isKept : Int32) (m_found : Nat → Int32) (m_steps : Nat → Int32) (m_queue : Nat → Int32) (m_lives : Nat → Int32) (m_treads : Nat → Int32) (m_tape : Nat → Int32) (m_taped : Int32) (m_begins : Int32) (m_ends : Int32) (m_sort : Int32) (m_value : Int32) (m_isWrong : Int32) (m_items : Nat → Int32) (m_itemMany : Int32) (m_seedThen : Int32) (m_groundThen : Nat → Int32) (m_widths : Nat → Int32) (m_sizes : Nat → Int32) (m_numbers : Nat → Int32) (m_moved : Nat → Int32) (res : Int32 × Int32 × Int32 × Int32 × Int32 × (Nat → Int32) × Int32 × Int32 × (Nat → Int32)) (hf : fX7_readItem n m_tape m_taped m_begins m_ends m_sort m_value m_isWrong m_items m_itemMany m_seedThen m_groundThen = some res) : Met l yX7_readItem wsX7_readItem ({ frames := 8, cells := 0, slots := 0, locals := 211 }) (va_Pc [.ref (gm g 0)] (mI g (m_now, m_kept, m_aside, m_isKept, m_found, m_steps, m_queue, m_lives, m_treads, m_tape, m_taped, m_begins, m_ends, m_sort, m_value, m_isWrong, m_items, m_itemMany, m_seedThen, m_groundThen, m_widths, m_sizes, m_numbers, m_moved))) (qW none True g.1 (mw g (m_now, m_kept, m_aside, m_isKept, m_found, m_steps, m_queue, m_lives, m_treads, m_tape, m_taped, res.1, res.2.1, res.2.2.1, res.2.2.2.1, res.2.2.2.2.1, res.2.2.2.2.2.1, res.2.2.2.2.2.2.1, res.2.2.2.2.2.2.2.1, res.2.2.2.2.2.2.2.2, m_widths, m_sizes, m_numbers, m_moved)) (mA g)) 0 0 (mA g) := by
  refine Met.ofW (cc := cX7_readItem) (maxL := 4) (ret := none) (by decide) rfl ?_
  intro p e s m args below meth c s₁ B hml hv
  obtain ⟨rfl, hI⟩ := hv
  have hx := B.exec
  have hb := B.bytes
  have hr := B.returns
  have hts := atoms_spec (ws := wsX7_readItem) B.pre
  have hown : s.vm.findClass RX7 = some m.cls := findClass_of_methodNamed B.named
  have hlocks := B.notSynchronized
  have hP := hI.1
  have hB := hI.2
  have hK := hB.1
  have hNW := hB.2.1
  have hS : va_S (mA g) s.heap s.heap [] := va_S.rf
  have hw0 := hts (.fieldLink RX7 53 "SownPathsModel" "kindNames" "[Ljava/lang/String;") (by decide +kernel)
  have hw1 := hts (.fieldLink RX7 74 "SownPathsModel" "groundNames" "[Ljava/lang/String;") (by decide +kernel)
  have hw2 := hts (.fieldLink RX7 306 "SownPathsModel" "value" "I") (by decide +kernel)
  have hw3 := hts (.fieldLink RX7 309 "SownPathsModel" "sort" "I") (by decide +kernel)
  have hw4 := hts (.fieldLink RX7 80 "SownPathsModel" "groundThen" "[I") (by decide +kernel)
  have iwX7 : ∀ w ∈ wsX70, w ∈ wsX7_readItem := fun w h => List.mem_cons_of_mem _ (List.mem_append_right _ h)
  have hl := lv_entry ([.ref (gm g 0)]) (n := 4) (Nat.le_of_ble_eq_true rfl)
  rw [lg_entry_eq]
  generalize (lg_sl ([.ref (gm g 0)]) ++ List.replicate (4 - (lg_sl ([.ref (gm g 0)])).length) Slot.unset).toArray = ls at hl ⊢
  have hl : lv_has ls 4 [(0, .ref (gm g 0))] := hl
  unfold fX7_readItem at hf
  refine lv_aload_n hx hb dX7_readItem_0 rfl (lv_at hl 0 rfl) ?_
  refine lv_aload_n hx hb dX7_readItem_1 rfl (lv_at hl 0 rfl) ?_
  refine va_get (D := g.1) (ci := 5) (v := .ref (gm g 10)) (C := RX7) (T := TX7) (N := 27) hx hb hts iwX7 hown hK hP 0 k_md rfl 16 (by decide) hw0 (fun _ h9 => h9) rfl dX7_readItem_2 ?_
  obtain ⟨q1, hq1, hf⟩ := bd_some hf
  refine kr_S (st1 := [.int q1]) (va_runV (As := [.ref (gm g 10)]) (rest := []) ⟨hx, hb, hml, hown, hts⟩ (ct_X7_wordOf l n g m_now m_kept m_aside m_isKept m_found m_steps m_queue m_lives m_treads m_tape m_taped m_begins m_ends m_sort m_value m_isWrong m_items m_itemMany m_seedThen m_groundThen m_widths m_sizes m_numbers m_moved 10 0 7 (fun _ => k_kindNames) (by decide) q1 hq1) (cwV 1 hts gX7_readItem_X7_wordOf rfl rfl rfl hd_X7_wordOf ⟨Nat.le_of_ble_eq_true rfl, Nat.le_of_ble_eq_true rfl⟩) ⟨bl_M, va_recv hK hP (ci := 5) (q0 := 0) rfl k_md, pr_M rfl hB hP hS⟩ rfl rfl hl.1 rfl (lv_room (Nat.le_of_ble_eq_true rfl)) dX7_readItem_5 ⟨Nat.le_refl _, Nat.le_refl _⟩) rfl (fun hn2 => ?_)
  refine lv_istore_n (lv' := [(1, .int q1), (0, .ref (gm g 0))]) hx hb dX7_readItem_8 rfl hl (by decide) rfl (fun ls hl => ?_)
  refine lv_aload_n hx hb dX7_readItem_9 rfl (lv_at hl 1 rfl) ?_
  refine lv_aload_n hx hb dX7_readItem_10 rfl (lv_at hl 1 rfl) ?_
  refine va_get (D := g.1) (ci := 5) (v := .ref (gm g 12)) (C := RX7) (T := TX7) (N := 27) hx hb hts iwX7 hown hK hP 0 k_md rfl 18 (by decide) hw1 (fun _ h9 => h9) rfl dX7_readItem_11 ?_
  obtain ⟨q3, hq3, hf⟩ := bd_some hf
  refine kr_S (st1 := [.int q3]) (va_runV (As := [.ref (gm g 12)]) (rest := []) ⟨hx, hb, hml, hown, hts⟩ (ct_X7_wordOf l n g m_now m_kept m_aside m_isKept m_found m_steps m_queue m_lives m_treads m_tape m_taped m_begins m_ends m_sort m_value m_isWrong m_items m_itemMany m_seedThen m_groundThen m_widths m_sizes m_numbers m_moved 12 7 3 (fun _ => k_groundNames) (by decide) q3 hq3) (cwV 1 hts gX7_readItem_X7_wordOf rfl rfl rfl hd_X7_wordOf ⟨Nat.le_of_ble_eq_true rfl, Nat.le_of_ble_eq_true rfl⟩) ⟨bl_M, va_recv hK hP (ci := 5) (q0 := 0) rfl k_md, pr_M rfl hB hP hS⟩ rfl rfl hl.1 rfl (lv_room (Nat.le_of_ble_eq_true rfl)) dX7_readItem_14 ⟨Nat.le_refl _, Nat.le_refl _⟩) rfl (fun hn4 => ?_)
  refine lv_istore_n (lv' := [(2, .int q3), (1, .int q1), (0, .ref (gm g 0))]) hx hb dX7_readItem_17 rfl hl (by decide) rfl (fun ls hl => ?_)
  refine lv_iload_n hx hb dX7_readItem_18 rfl (lv_at hl 1 rfl) ?_
  refine lv_if_lt (tgt := 30) hx hb dX7_readItem_19 (by decide) (fun hc5 => ?_) (fun hc5 => ?_)
  · have hf := (if_pos hc5).symm.trans hf
    refine lv_iload_n hx hb dX7_readItem_30 rfl (lv_at hl 0 rfl) ?_
    refine lv_if_lt (tgt := 42) hx hb dX7_readItem_31 (by decide) (fun hc6 => ?_) (fun hc6 => ?_)
    · have hf := (if_pos hc6).symm.trans hf
      refine lv_aload_n hx hb dX7_readItem_42 rfl (lv_at hl 2 rfl) ?_
      refine lv_aload_n hx hb dX7_readItem_43 rfl (lv_at hl 2 rfl) ?_
      refine kr_ldcwS hx hb hown (q := mK g 14) (hB.2.2.2.1 ("SownPathsModel", 359, "path", 14) (by decide +kernel)) dX7_readItem_44 ?_
      obtain ⟨q7, hq7, hf⟩ := bd_some hf
      refine kr_S (st1 := [.int q7, .ref (gm g 0)]) (va_runV (As := [.ref (mK g 14)]) (rest := [.ref (gm g 0)]) ⟨hx, hb, hml, hown, hts⟩ (ct_X7_isWord l n g m_now m_kept m_aside m_isKept m_found m_steps m_queue m_lives m_treads m_tape m_taped m_begins m_ends m_sort m_value m_isWrong m_items m_itemMany m_seedThen m_groundThen m_widths m_sizes m_numbers m_moved 14 (by decide) q7 hq7) (cwV 1 hts gX7_readItem_X7_isWord rfl rfl rfl hd_X7_isWord ⟨Nat.le_of_ble_eq_true rfl, Nat.le_of_ble_eq_true rfl⟩) ⟨bl_M, va_recv hK hP (ci := 5) (q0 := 0) rfl k_md, pr_M rfl hB hP hS⟩ rfl rfl hl.1 rfl (lv_room (Nat.le_of_ble_eq_true rfl)) dX7_readItem_47 ⟨Nat.le_refl _, Nat.le_refl _⟩) rfl (fun hn8 => ?_)
      obtain ⟨q9, hq9, hf⟩ := bd_some hf
      refine kr_W (st1 := []) (va_runV (As := [.int q7]) (rest := []) ⟨hx, hb, hml, hown, hts⟩ (ct_X7_must l n g m_now m_kept m_aside m_isKept m_found m_steps m_queue m_lives m_treads m_tape m_taped m_begins m_ends m_sort m_value m_isWrong m_items m_itemMany m_seedThen m_groundThen m_widths m_sizes m_numbers m_moved q7 q9 hq9) (cwV 1 hts gX7_readItem_X7_must rfl rfl rfl hd_X7_must ⟨Nat.le_of_ble_eq_true rfl, Nat.le_of_ble_eq_true rfl⟩) ⟨bl_M, va_recv hK hP (ci := 5) (q0 := 0) rfl k_md, pr_M rfl hB hP hS⟩ rfl rfl hl.1 rfl (lv_room (Nat.le_of_ble_eq_true rfl)) dX7_readItem_50 ⟨Nat.le_refl _, Nat.le_refl _⟩) hS rfl (fun hn10 H locs hP hS => ?_)
      have hP : va_P g.1 vwCl (mw g (m_now, m_kept, m_aside, m_isKept, m_found, m_steps, m_queue, m_lives, m_treads, m_tape, m_taped, q9.1, q9.2.1, q9.2.2.1, q9.2.2.2.1, q9.2.2.2.2, m_items, m_itemMany, m_seedThen, m_groundThen, m_widths, m_sizes, m_numbers, m_moved)) H := hP
      refine lv_aload_n hx hb dX7_readItem_53 rfl (lv_at hl 2 rfl) ?_
      refine va_get (D := g.1) (ci := 5) (v := .int q9.2.2.2.1) (C := RX7) (T := TX7) (N := 27) hx hb hts iwX7 hown hK hP 0 k_md rfl 14 (by decide) hw2 (fun _ h9 => h9) rfl dX7_readItem_54 ?_
      refine lv_istore_n (lv' := [(3, .int q9.2.2.2.1), (2, .int q3), (1, .int q1), (0, .ref (gm g 0))]) hx hb dX7_readItem_57 rfl hl (by decide) rfl (fun ls hl => ?_)
      refine lv_aload_n hx hb dX7_readItem_58 rfl (lv_at hl 3 rfl) ?_
      refine lv_aload_n hx hb dX7_readItem_59 rfl (lv_at hl 3 rfl) ?_
      refine va_get (D := g.1) (ci := 5) (v := .int q9.2.2.1) (C := RX7) (T := TX7) (N := 27) hx hb hts iwX7 hown hK hP 0 k_md rfl 13 (by decide) hw3 (fun _ h9 => h9) rfl dX7_readItem_60 ?_
      refine lv_iconst (v := (2 : Int32)) hx hb dX7_readItem_63 (by decide) ?_
      refine lv_icmp_ne (tgt := 98) hx hb dX7_readItem_64 (by decide) (fun hc11 => ?_) (fun hc11 => ?_)
      · have hf := (if_neg hc11).symm.trans hf
        refine lv_iconst (v := (0 : Int32)) hx hb dX7_readItem_98 (by decide) ?_
        obtain ⟨q12, hq12, hf⟩ := bd_some hf
        refine kr_W (st1 := []) (va_runV (As := [.int (0 : Int32)]) (rest := []) ⟨hx, hb, hml, hown, hts⟩ (ct_X7_must l n g m_now m_kept m_aside m_isKept m_found m_steps m_queue m_lives m_treads m_tape m_taped q9.1 q9.2.1 q9.2.2.1 q9.2.2.2.1 q9.2.2.2.2 m_items m_itemMany m_seedThen m_groundThen m_widths m_sizes m_numbers m_moved (0 : Int32) q12 hq12) (cwV 1 hts gX7_readItem_X7_must rfl rfl rfl hd_X7_must ⟨Nat.le_of_ble_eq_true rfl, Nat.le_of_ble_eq_true rfl⟩) ⟨bl_M, va_recv hK hP (ci := 5) (q0 := 0) rfl k_md, pr_M rfl hB hP hS⟩ rfl rfl hl.1 rfl (lv_room (Nat.le_of_ble_eq_true rfl)) dX7_readItem_99 ⟨Nat.le_refl _, Nat.le_refl _⟩) hS rfl (fun hn13 H locs hP hS => ?_)
        have hP : va_P g.1 vwCl (mw g (m_now, m_kept, m_aside, m_isKept, m_found, m_steps, m_queue, m_lives, m_treads, m_tape, m_taped, q12.1, q12.2.1, q12.2.2.1, q12.2.2.2.1, q12.2.2.2.2, m_items, m_itemMany, m_seedThen, m_groundThen, m_widths, m_sizes, m_numbers, m_moved)) H := hP
        refine lv_aload_n hx hb dX7_readItem_102 rfl (lv_at hl 3 rfl) ?_
        refine lv_bipush (v := (11 : Int32)) hx hb dX7_readItem_103 (by decide) ?_
        refine lv_iload_n hx hb dX7_readItem_105 rfl (lv_at hl 0 rfl) ?_
        refine lv_aload_n hx hb dX7_readItem_106 rfl (lv_at hl 3 rfl) ?_
        refine lv_iconst (v := (0 : Int32)) hx hb dX7_readItem_107 (by decide) ?_
        refine lv_bipush (v := (99 : Int32)) hx hb dX7_readItem_108 (by decide) ?_
        obtain ⟨q14, hq14, hf⟩ := bd_some hf
        refine kr_W (st1 := [.int q14.1, .int q9.2.2.2.1, .int (11 : Int32), .ref (gm g 0)]) (va_runV (As := [.int (0 : Int32), .int (99 : Int32)]) (rest := [.int q9.2.2.2.1, .int (11 : Int32), .ref (gm g 0)]) ⟨hx, hb, hml, hown, hts⟩ (ct_X7_number l n g m_now m_kept m_aside m_isKept m_found m_steps m_queue m_lives m_treads m_tape m_taped q12.1 q12.2.1 q12.2.2.1 q12.2.2.2.1 q12.2.2.2.2 m_items m_itemMany m_seedThen m_groundThen m_widths m_sizes m_numbers m_moved (0 : Int32) (99 : Int32) q14 hq14) (cwV 2 hts gX7_readItem_X7_number rfl rfl rfl hd_X7_number ⟨Nat.le_of_ble_eq_true rfl, Nat.le_of_ble_eq_true rfl⟩) ⟨bl_M, va_recv hK hP (ci := 5) (q0 := 0) rfl k_md, pr_M rfl hB hP hS⟩ rfl rfl hl.1 rfl (lv_room (Nat.le_of_ble_eq_true rfl)) dX7_readItem_110 ⟨Nat.le_refl _, Nat.le_refl _⟩) hS rfl (fun hn15 H locs hP hS => ?_)
        have hP : va_P g.1 vwCl (mw g (m_now, m_kept, m_aside, m_isKept, m_found, m_steps, m_queue, m_lives, m_treads, m_tape, m_taped, q14.2.1, q14.2.2.1, q14.2.2.2.1, q14.2.2.2.2.1, q14.2.2.2.2.2, m_items, m_itemMany, m_seedThen, m_groundThen, m_widths, m_sizes, m_numbers, m_moved)) H := hP
        refine lv_iconst (v := (0 : Int32)) hx hb dX7_readItem_113 (by decide) ?_
        obtain ⟨q16, hq16, hf⟩ := bd_some hf
        refine kr_W (st1 := []) (va_runV (As := [.int (11 : Int32), .int q9.2.2.2.1, .int q14.1, .int (0 : Int32)]) (rest := []) ⟨hx, hb, hml, hown, hts⟩ (ct_X7_item l n g m_now m_kept m_aside m_isKept m_found m_steps m_queue m_lives m_treads m_tape m_taped q14.2.1 q14.2.2.1 q14.2.2.2.1 q14.2.2.2.2.1 q14.2.2.2.2.2 m_items m_itemMany m_seedThen m_groundThen m_widths m_sizes m_numbers m_moved (11 : Int32) q9.2.2.2.1 q14.1 (0 : Int32) q16 hq16) (cwV 4 hts gX7_readItem_X7_item rfl rfl rfl hd_X7_item ⟨Nat.le_of_ble_eq_true rfl, Nat.le_of_ble_eq_true rfl⟩) ⟨bl_M, va_recv hK hP (ci := 5) (q0 := 0) rfl k_md, pr_M rfl hB hP hS⟩ rfl rfl hl.1 rfl (lv_room (Nat.le_of_ble_eq_true rfl)) dX7_readItem_114 ⟨Nat.le_refl _, Nat.le_refl _⟩) hS rfl (fun hn17 H locs hP hS => ?_)
        have hP : va_P g.1 vwCl (mw g (m_now, m_kept, m_aside, m_isKept, m_found, m_steps, m_queue, m_lives, m_treads, m_tape, m_taped, q14.2.1, q14.2.2.1, q14.2.2.2.1, q14.2.2.2.2.1, q14.2.2.2.2.2, q16.1, q16.2, m_seedThen, m_groundThen, m_widths, m_sizes, m_numbers, m_moved)) H := hP
        have hres : (q14.2.1, q14.2.2.1, q14.2.2.2.1, q14.2.2.2.2.1, q14.2.2.2.2.2, q16.1, q16.2, m_seedThen, m_groundThen) = res := (Option.some.inj hf)
        have hP := w_eq (congrArg (fun z => mw g (m_now, m_kept, m_aside, m_isKept, m_found, m_steps, m_queue, m_lives, m_treads, m_tape, m_taped, z.1, z.2.1, z.2.2.1, z.2.2.2.1, z.2.2.2.2.1, z.2.2.2.2.2.1, z.2.2.2.2.2.2.1, z.2.2.2.2.2.2.2.1, z.2.2.2.2.2.2.2.2, m_widths, m_sizes, m_numbers, m_moved)) hres) hP
        exact W.vret hx hb hr (fun t ht hW => ⟨rfl, trivial, by rw [ht]; exact hP, hS.F ht⟩) hS.2.2 dX7_readItem_117
      · have hf := (if_pos hc11).symm.trans hf
        refine lv_iload_n hx hb dX7_readItem_67 rfl (lv_at hl 0 rfl) ?_
        obtain ⟨q18, hq18, hf⟩ := bd_some hf
        refine kr_S (st1 := [.int q18, .ref (gm g 0)]) (va_runS (As := [.int q9.2.2.2.1]) (rest := [.ref (gm g 0)]) ⟨hx, hb, hml, hown, hts⟩ (ct_X7_isCell l n q9.2.2.2.1 q18 hq18) (va_cwS 1 hts gX7_readItem_X7_isCell rfl rfl rfl hn_X7_isCell ⟨Nat.le_of_ble_eq_true rfl, Nat.le_of_ble_eq_true rfl⟩) ⟨bl_N, pr_N rfl hNW⟩ rfl rfl hl.1 rfl (lv_room (Nat.le_of_ble_eq_true rfl)) dX7_readItem_68 ⟨Nat.le_refl _, Nat.le_refl _⟩) rfl (fun hn19 => ?_)
        refine lv_if_eq (tgt := 98) hx hb dX7_readItem_71 (by decide) (fun hc20 => ?_) (fun hc20 => ?_)
        · have hf := (if_pos hc20).symm.trans hf
          refine lv_iconst (v := (0 : Int32)) hx hb dX7_readItem_98 (by decide) ?_
          obtain ⟨q21, hq21, hf⟩ := bd_some hf
          refine kr_W (st1 := []) (va_runV (As := [.int (0 : Int32)]) (rest := []) ⟨hx, hb, hml, hown, hts⟩ (ct_X7_must l n g m_now m_kept m_aside m_isKept m_found m_steps m_queue m_lives m_treads m_tape m_taped q9.1 q9.2.1 q9.2.2.1 q9.2.2.2.1 q9.2.2.2.2 m_items m_itemMany m_seedThen m_groundThen m_widths m_sizes m_numbers m_moved (0 : Int32) q21 hq21) (cwV 1 hts gX7_readItem_X7_must rfl rfl rfl hd_X7_must ⟨Nat.le_of_ble_eq_true rfl, Nat.le_of_ble_eq_true rfl⟩) ⟨bl_M, va_recv hK hP (ci := 5) (q0 := 0) rfl k_md, pr_M rfl hB hP hS⟩ rfl rfl hl.1 rfl (lv_room (Nat.le_of_ble_eq_true rfl)) dX7_readItem_99 ⟨Nat.le_refl _, Nat.le_refl _⟩) hS rfl (fun hn22 H locs hP hS => ?_)
          have hP : va_P g.1 vwCl (mw g (m_now, m_kept, m_aside, m_isKept, m_found, m_steps, m_queue, m_lives, m_treads, m_tape, m_taped, q21.1, q21.2.1, q21.2.2.1, q21.2.2.2.1, q21.2.2.2.2, m_items, m_itemMany, m_seedThen, m_groundThen, m_widths, m_sizes, m_numbers, m_moved)) H := hP
          refine lv_aload_n hx hb dX7_readItem_102 rfl (lv_at hl 3 rfl) ?_
          refine lv_bipush (v := (11 : Int32)) hx hb dX7_readItem_103 (by decide) ?_
          refine lv_iload_n hx hb dX7_readItem_105 rfl (lv_at hl 0 rfl) ?_
          refine lv_aload_n hx hb dX7_readItem_106 rfl (lv_at hl 3 rfl) ?_
          refine lv_iconst (v := (0 : Int32)) hx hb dX7_readItem_107 (by decide) ?_
          refine lv_bipush (v := (99 : Int32)) hx hb dX7_readItem_108 (by decide) ?_
          obtain ⟨q23, hq23, hf⟩ := bd_some hf
          refine kr_W (st1 := [.int q23.1, .int q9.2.2.2.1, .int (11 : Int32), .ref (gm g 0)]) (va_runV (As := [.int (0 : Int32), .int (99 : Int32)]) (rest := [.int q9.2.2.2.1, .int (11 : Int32), .ref (gm g 0)]) ⟨hx, hb, hml, hown, hts⟩ (ct_X7_number l n g m_now m_kept m_aside m_isKept m_found m_steps m_queue m_lives m_treads m_tape m_taped q21.1 q21.2.1 q21.2.2.1 q21.2.2.2.1 q21.2.2.2.2 m_items m_itemMany m_seedThen m_groundThen m_widths m_sizes m_numbers m_moved (0 : Int32) (99 : Int32) q23 hq23) (cwV 2 hts gX7_readItem_X7_number rfl rfl rfl hd_X7_number ⟨Nat.le_of_ble_eq_true rfl, Nat.le_of_ble_eq_true rfl⟩) ⟨bl_M, va_recv hK hP (ci := 5) (q0 := 0) rfl k_md, pr_M rfl hB hP hS⟩ rfl rfl hl.1 rfl (lv_room (Nat.le_of_ble_eq_true rfl)) dX7_readItem_110 ⟨Nat.le_refl _, Nat.le_refl _⟩) hS rfl (fun hn24 H locs hP hS => ?_)
          have hP : va_P g.1 vwCl (mw g (m_now, m_kept, m_aside, m_isKept, m_found, m_steps, m_queue, m_lives, m_treads, m_tape, m_taped, q23.2.1, q23.2.2.1, q23.2.2.2.1, q23.2.2.2.2.1, q23.2.2.2.2.2, m_items, m_itemMany, m_seedThen, m_groundThen, m_widths, m_sizes, m_numbers, m_moved)) H := hP
          refine lv_iconst (v := (0 : Int32)) hx hb dX7_readItem_113 (by decide) ?_
          obtain ⟨q25, hq25, hf⟩ := bd_some hf
          refine kr_W (st1 := []) (va_runV (As := [.int (11 : Int32), .int q9.2.2.2.1, .int q23.1, .int (0 : Int32)]) (rest := []) ⟨hx, hb, hml, hown, hts⟩ (ct_X7_item l n g m_now m_kept m_aside m_isKept m_found m_steps m_queue m_lives m_treads m_tape m_taped q23.2.1 q23.2.2.1 q23.2.2.2.1 q23.2.2.2.2.1 q23.2.2.2.2.2 m_items m_itemMany m_seedThen m_groundThen m_widths m_sizes m_numbers m_moved (11 : Int32) q9.2.2.2.1 q23.1 (0 : Int32) q25 hq25) (cwV 4 hts gX7_readItem_X7_item rfl rfl rfl hd_X7_item ⟨Nat.le_of_ble_eq_true rfl, Nat.le_of_ble_eq_true rfl⟩) ⟨bl_M, va_recv hK hP (ci := 5) (q0 := 0) rfl k_md, pr_M rfl hB hP hS⟩ rfl rfl hl.1 rfl (lv_room (Nat.le_of_ble_eq_true rfl)) dX7_readItem_114 ⟨Nat.le_refl _, Nat.le_refl _⟩) hS rfl (fun hn26 H locs hP hS => ?_)
          have hP : va_P g.1 vwCl (mw g (m_now, m_kept, m_aside, m_isKept, m_found, m_steps, m_queue, m_lives, m_treads, m_tape, m_taped, q23.2.1, q23.2.2.1, q23.2.2.2.1, q23.2.2.2.2.1, q23.2.2.2.2.2, q25.1, q25.2, m_seedThen, m_groundThen, m_widths, m_sizes, m_numbers, m_moved)) H := hP
          have hres : (q23.2.1, q23.2.2.1, q23.2.2.2.1, q23.2.2.2.2.1, q23.2.2.2.2.2, q25.1, q25.2, m_seedThen, m_groundThen) = res := (Option.some.inj hf)
          have hP := w_eq (congrArg (fun z => mw g (m_now, m_kept, m_aside, m_isKept, m_found, m_steps, m_queue, m_lives, m_treads, m_tape, m_taped, z.1, z.2.1, z.2.2.1, z.2.2.2.1, z.2.2.2.2.1, z.2.2.2.2.2.1, z.2.2.2.2.2.2.1, z.2.2.2.2.2.2.2.1, z.2.2.2.2.2.2.2.2, m_widths, m_sizes, m_numbers, m_moved)) hres) hP
          exact W.vret hx hb hr (fun t ht hW => ⟨rfl, trivial, by rw [ht]; exact hP, hS.F ht⟩) hS.2.2 dX7_readItem_117
        · have hf := (if_neg hc20).symm.trans hf
          refine lv_aload_n hx hb dX7_readItem_74 rfl (lv_at hl 3 rfl) ?_
          refine va_get (D := g.1) (ci := 5) (v := .ref (gm g 14)) (C := RX7) (T := TX7) (N := 27) hx hb hts iwX7 hown hK hP 0 k_md rfl 22 (by decide) hw4 (fun _ h9 => h9) rfl dX7_readItem_75 ?_
          refine lv_iload_n hx hb dX7_readItem_78 rfl (lv_at hl 0 rfl) ?_
          obtain ⟨q27, hq27, hf⟩ := bd_some hf
          refine kr_S (st1 := [.int q27, .ref (gm g 14), .ref (gm g 0)]) (va_runS (As := [.int q9.2.2.2.1]) (rest := [.ref (gm g 14), .ref (gm g 0)]) ⟨hx, hb, hml, hown, hts⟩ (ct_X7_isCell l n q9.2.2.2.1 q27 hq27) (va_cwS 1 hts gX7_readItem_X7_isCell rfl rfl rfl hn_X7_isCell ⟨Nat.le_of_ble_eq_true rfl, Nat.le_of_ble_eq_true rfl⟩) ⟨bl_N, pr_N rfl hNW⟩ rfl rfl hl.1 rfl (lv_room (Nat.le_of_ble_eq_true rfl)) dX7_readItem_79 ⟨Nat.le_refl _, Nat.le_refl _⟩) rfl (fun hn28 => ?_)
          refine lv_if_eq (tgt := 89) hx hb dX7_readItem_82 (by decide) (fun hc29 => ?_) (fun hc29 => ?_)
          · have hf := (if_pos hc29).symm.trans hf
            refine lv_iconst (v := (0 : Int32)) hx hb dX7_readItem_89 (by decide) ?_
            refine va_iald (f := m_groundThen) hx hb hK hP 14 0 k_groundThen rfl (vi_lit (by decide)) dX7_readItem_90 ?_
            refine lv_if_ne (tgt := 98) hx hb dX7_readItem_91 (by decide) (fun hc30 => ?_) (fun hc30 => ?_)
            · have hf := (if_neg hc30).symm.trans hf
              refine lv_iconst (v := (0 : Int32)) hx hb dX7_readItem_98 (by decide) ?_
              obtain ⟨q31, hq31, hf⟩ := bd_some hf
              refine kr_W (st1 := []) (va_runV (As := [.int (0 : Int32)]) (rest := []) ⟨hx, hb, hml, hown, hts⟩ (ct_X7_must l n g m_now m_kept m_aside m_isKept m_found m_steps m_queue m_lives m_treads m_tape m_taped q9.1 q9.2.1 q9.2.2.1 q9.2.2.2.1 q9.2.2.2.2 m_items m_itemMany m_seedThen m_groundThen m_widths m_sizes m_numbers m_moved (0 : Int32) q31 hq31) (cwV 1 hts gX7_readItem_X7_must rfl rfl rfl hd_X7_must ⟨Nat.le_of_ble_eq_true rfl, Nat.le_of_ble_eq_true rfl⟩) ⟨bl_M, va_recv hK hP (ci := 5) (q0 := 0) rfl k_md, pr_M rfl hB hP hS⟩ rfl rfl hl.1 rfl (lv_room (Nat.le_of_ble_eq_true rfl)) dX7_readItem_99 ⟨Nat.le_refl _, Nat.le_refl _⟩) hS rfl (fun hn32 H locs hP hS => ?_)
              have hP : va_P g.1 vwCl (mw g (m_now, m_kept, m_aside, m_isKept, m_found, m_steps, m_queue, m_lives, m_treads, m_tape, m_taped, q31.1, q31.2.1, q31.2.2.1, q31.2.2.2.1, q31.2.2.2.2, m_items, m_itemMany, m_seedThen, m_groundThen, m_widths, m_sizes, m_numbers, m_moved)) H := hP
              refine lv_aload_n hx hb dX7_readItem_102 rfl (lv_at hl 3 rfl) ?_
              refine lv_bipush (v := (11 : Int32)) hx hb dX7_readItem_103 (by decide) ?_
              refine lv_iload_n hx hb dX7_readItem_105 rfl (lv_at hl 0 rfl) ?_
              refine lv_aload_n hx hb dX7_readItem_106 rfl (lv_at hl 3 rfl) ?_
              refine lv_iconst (v := (0 : Int32)) hx hb dX7_readItem_107 (by decide) ?_
              refine lv_bipush (v := (99 : Int32)) hx hb dX7_readItem_108 (by decide) ?_
              obtain ⟨q33, hq33, hf⟩ := bd_some hf
              refine kr_W (st1 := [.int q33.1, .int q9.2.2.2.1, .int (11 : Int32), .ref (gm g 0)]) (va_runV (As := [.int (0 : Int32), .int (99 : Int32)]) (rest := [.int q9.2.2.2.1, .int (11 : Int32), .ref (gm g 0)]) ⟨hx, hb, hml, hown, hts⟩ (ct_X7_number l n g m_now m_kept m_aside m_isKept m_found m_steps m_queue m_lives m_treads m_tape m_taped q31.1 q31.2.1 q31.2.2.1 q31.2.2.2.1 q31.2.2.2.2 m_items m_itemMany m_seedThen m_groundThen m_widths m_sizes m_numbers m_moved (0 : Int32) (99 : Int32) q33 hq33) (cwV 2 hts gX7_readItem_X7_number rfl rfl rfl hd_X7_number ⟨Nat.le_of_ble_eq_true rfl, Nat.le_of_ble_eq_true rfl⟩) ⟨bl_M, va_recv hK hP (ci := 5) (q0 := 0) rfl k_md, pr_M rfl hB hP hS⟩ rfl rfl hl.1 rfl (lv_room (Nat.le_of_ble_eq_true rfl)) dX7_readItem_110 ⟨Nat.le_refl _, Nat.le_refl _⟩) hS rfl (fun hn34 H locs hP hS => ?_)
              have hP : va_P g.1 vwCl (mw g (m_now, m_kept, m_aside, m_isKept, m_found, m_steps, m_queue, m_lives, m_treads, m_tape, m_taped, q33.2.1, q33.2.2.1, q33.2.2.2.1, q33.2.2.2.2.1, q33.2.2.2.2.2, m_items, m_itemMany, m_seedThen, m_groundThen, m_widths, m_sizes, m_numbers, m_moved)) H := hP
              refine lv_iconst (v := (0 : Int32)) hx hb dX7_readItem_113 (by decide) ?_
              obtain ⟨q35, hq35, hf⟩ := bd_some hf
              refine kr_W (st1 := []) (va_runV (As := [.int (11 : Int32), .int q9.2.2.2.1, .int q33.1, .int (0 : Int32)]) (rest := []) ⟨hx, hb, hml, hown, hts⟩ (ct_X7_item l n g m_now m_kept m_aside m_isKept m_found m_steps m_queue m_lives m_treads m_tape m_taped q33.2.1 q33.2.2.1 q33.2.2.2.1 q33.2.2.2.2.1 q33.2.2.2.2.2 m_items m_itemMany m_seedThen m_groundThen m_widths m_sizes m_numbers m_moved (11 : Int32) q9.2.2.2.1 q33.1 (0 : Int32) q35 hq35) (cwV 4 hts gX7_readItem_X7_item rfl rfl rfl hd_X7_item ⟨Nat.le_of_ble_eq_true rfl, Nat.le_of_ble_eq_true rfl⟩) ⟨bl_M, va_recv hK hP (ci := 5) (q0 := 0) rfl k_md, pr_M rfl hB hP hS⟩ rfl rfl hl.1 rfl (lv_room (Nat.le_of_ble_eq_true rfl)) dX7_readItem_114 ⟨Nat.le_refl _, Nat.le_refl _⟩) hS rfl (fun hn36 H locs hP hS => ?_)
              have hP : va_P g.1 vwCl (mw g (m_now, m_kept, m_aside, m_isKept, m_found, m_steps, m_queue, m_lives, m_treads, m_tape, m_taped, q33.2.1, q33.2.2.1, q33.2.2.2.1, q33.2.2.2.2.1, q33.2.2.2.2.2, q35.1, q35.2, m_seedThen, m_groundThen, m_widths, m_sizes, m_numbers, m_moved)) H := hP
              have hres : (q33.2.1, q33.2.2.1, q33.2.2.2.1, q33.2.2.2.2.1, q33.2.2.2.2.2, q35.1, q35.2, m_seedThen, m_groundThen) = res := (Option.some.inj hf)
              have hP := w_eq (congrArg (fun z => mw g (m_now, m_kept, m_aside, m_isKept, m_found, m_steps, m_queue, m_lives, m_treads, m_tape, m_taped, z.1, z.2.1, z.2.2.1, z.2.2.2.1, z.2.2.2.2.1, z.2.2.2.2.2.1, z.2.2.2.2.2.2.1, z.2.2.2.2.2.2.2.1, z.2.2.2.2.2.2.2.2, m_widths, m_sizes, m_numbers, m_moved)) hres) hP
              exact W.vret hx hb hr (fun t ht hW => ⟨rfl, trivial, by rw [ht]; exact hP, hS.F ht⟩) hS.2.2 dX7_readItem_117
            · have hf := (if_pos hc30).symm.trans hf
              refine lv_iconst (v := (1 : Int32)) hx hb dX7_readItem_94 (by decide) ?_
              refine lv_goto (tgt := 99) hx hb dX7_readItem_95 (by decide) ?_
              obtain ⟨q37, hq37, hf⟩ := bd_some hf
              refine kr_W (st1 := []) (va_runV (As := [.int (1 : Int32)]) (rest := []) ⟨hx, hb, hml, hown, hts⟩ (ct_X7_must l n g m_now m_kept m_aside m_isKept m_found m_steps m_queue m_lives m_treads m_tape m_taped q9.1 q9.2.1 q9.2.2.1 q9.2.2.2.1 q9.2.2.2.2 m_items m_itemMany m_seedThen m_groundThen m_widths m_sizes m_numbers m_moved (1 : Int32) q37 hq37) (cwV 1 hts gX7_readItem_X7_must rfl rfl rfl hd_X7_must ⟨Nat.le_of_ble_eq_true rfl, Nat.le_of_ble_eq_true rfl⟩) ⟨bl_M, va_recv hK hP (ci := 5) (q0 := 0) rfl k_md, pr_M rfl hB hP hS⟩ rfl rfl hl.1 rfl (lv_room (Nat.le_of_ble_eq_true rfl)) dX7_readItem_99 ⟨Nat.le_refl _, Nat.le_refl _⟩) hS rfl (fun hn38 H locs hP hS => ?_)
              have hP : va_P g.1 vwCl (mw g (m_now, m_kept, m_aside, m_isKept, m_found, m_steps, m_queue, m_lives, m_treads, m_tape, m_taped, q37.1, q37.2.1, q37.2.2.1, q37.2.2.2.1, q37.2.2.2.2, m_items, m_itemMany, m_seedThen, m_groundThen, m_widths, m_sizes, m_numbers, m_moved)) H := hP
              refine lv_aload_n hx hb dX7_readItem_102 rfl (lv_at hl 3 rfl) ?_
              refine lv_bipush (v := (11 : Int32)) hx hb dX7_readItem_103 (by decide) ?_
              refine lv_iload_n hx hb dX7_readItem_105 rfl (lv_at hl 0 rfl) ?_
              refine lv_aload_n hx hb dX7_readItem_106 rfl (lv_at hl 3 rfl) ?_
              refine lv_iconst (v := (0 : Int32)) hx hb dX7_readItem_107 (by decide) ?_
              refine lv_bipush (v := (99 : Int32)) hx hb dX7_readItem_108 (by decide) ?_
              obtain ⟨q39, hq39, hf⟩ := bd_some hf
              refine kr_W (st1 := [.int q39.1, .int q9.2.2.2.1, .int (11 : Int32), .ref (gm g 0)]) (va_runV (As := [.int (0 : Int32), .int (99 : Int32)]) (rest := [.int q9.2.2.2.1, .int (11 : Int32), .ref (gm g 0)]) ⟨hx, hb, hml, hown, hts⟩ (ct_X7_number l n g m_now m_kept m_aside m_isKept m_found m_steps m_queue m_lives m_treads m_tape m_taped q37.1 q37.2.1 q37.2.2.1 q37.2.2.2.1 q37.2.2.2.2 m_items m_itemMany m_seedThen m_groundThen m_widths m_sizes m_numbers m_moved (0 : Int32) (99 : Int32) q39 hq39) (cwV 2 hts gX7_readItem_X7_number rfl rfl rfl hd_X7_number ⟨Nat.le_of_ble_eq_true rfl, Nat.le_of_ble_eq_true rfl⟩) ⟨bl_M, va_recv hK hP (ci := 5) (q0 := 0) rfl k_md, pr_M rfl hB hP hS⟩ rfl rfl hl.1 rfl (lv_room (Nat.le_of_ble_eq_true rfl)) dX7_readItem_110 ⟨Nat.le_refl _, Nat.le_refl _⟩) hS rfl (fun hn40 H locs hP hS => ?_)
              have hP : va_P g.1 vwCl (mw g (m_now, m_kept, m_aside, m_isKept, m_found, m_steps, m_queue, m_lives, m_treads, m_tape, m_taped, q39.2.1, q39.2.2.1, q39.2.2.2.1, q39.2.2.2.2.1, q39.2.2.2.2.2, m_items, m_itemMany, m_seedThen, m_groundThen, m_widths, m_sizes, m_numbers, m_moved)) H := hP
              refine lv_iconst (v := (0 : Int32)) hx hb dX7_readItem_113 (by decide) ?_
              obtain ⟨q41, hq41, hf⟩ := bd_some hf
              refine kr_W (st1 := []) (va_runV (As := [.int (11 : Int32), .int q9.2.2.2.1, .int q39.1, .int (0 : Int32)]) (rest := []) ⟨hx, hb, hml, hown, hts⟩ (ct_X7_item l n g m_now m_kept m_aside m_isKept m_found m_steps m_queue m_lives m_treads m_tape m_taped q39.2.1 q39.2.2.1 q39.2.2.2.1 q39.2.2.2.2.1 q39.2.2.2.2.2 m_items m_itemMany m_seedThen m_groundThen m_widths m_sizes m_numbers m_moved (11 : Int32) q9.2.2.2.1 q39.1 (0 : Int32) q41 hq41) (cwV 4 hts gX7_readItem_X7_item rfl rfl rfl hd_X7_item ⟨Nat.le_of_ble_eq_true rfl, Nat.le_of_ble_eq_true rfl⟩) ⟨bl_M, va_recv hK hP (ci := 5) (q0 := 0) rfl k_md, pr_M rfl hB hP hS⟩ rfl rfl hl.1 rfl (lv_room (Nat.le_of_ble_eq_true rfl)) dX7_readItem_114 ⟨Nat.le_refl _, Nat.le_refl _⟩) hS rfl (fun hn42 H locs hP hS => ?_)
              have hP : va_P g.1 vwCl (mw g (m_now, m_kept, m_aside, m_isKept, m_found, m_steps, m_queue, m_lives, m_treads, m_tape, m_taped, q39.2.1, q39.2.2.1, q39.2.2.2.1, q39.2.2.2.2.1, q39.2.2.2.2.2, q41.1, q41.2, m_seedThen, m_groundThen, m_widths, m_sizes, m_numbers, m_moved)) H := hP
              have hres : (q39.2.1, q39.2.2.1, q39.2.2.2.1, q39.2.2.2.2.1, q39.2.2.2.2.2, q41.1, q41.2, m_seedThen, m_groundThen) = res := (Option.some.inj hf)
              have hP := w_eq (congrArg (fun z => mw g (m_now, m_kept, m_aside, m_isKept, m_found, m_steps, m_queue, m_lives, m_treads, m_tape, m_taped, z.1, z.2.1, z.2.2.1, z.2.2.2.1, z.2.2.2.2.1, z.2.2.2.2.2.1, z.2.2.2.2.2.2.1, z.2.2.2.2.2.2.2.1, z.2.2.2.2.2.2.2.2, m_widths, m_sizes, m_numbers, m_moved)) hres) hP
              exact W.vret hx hb hr (fun t ht hW => ⟨rfl, trivial, by rw [ht]; exact hP, hS.F ht⟩) hS.2.2 dX7_readItem_117
          · have hf := (if_neg hc29).symm.trans hf
            refine lv_iload_n hx hb dX7_readItem_85 rfl (lv_at hl 0 rfl) ?_
            refine lv_goto (tgt := 90) hx hb dX7_readItem_86 (by decide) ?_
            obtain ⟨hg43, hf⟩ := gd_some hf
            refine va_iald (f := m_groundThen) hx hb hK hP 14 0 k_groundThen rfl hg43 dX7_readItem_90 ?_
            refine lv_if_ne (tgt := 98) hx hb dX7_readItem_91 (by decide) (fun hc44 => ?_) (fun hc44 => ?_)
            · have hf := (if_neg hc44).symm.trans hf
              refine lv_iconst (v := (0 : Int32)) hx hb dX7_readItem_98 (by decide) ?_
              obtain ⟨q45, hq45, hf⟩ := bd_some hf
              refine kr_W (st1 := []) (va_runV (As := [.int (0 : Int32)]) (rest := []) ⟨hx, hb, hml, hown, hts⟩ (ct_X7_must l n g m_now m_kept m_aside m_isKept m_found m_steps m_queue m_lives m_treads m_tape m_taped q9.1 q9.2.1 q9.2.2.1 q9.2.2.2.1 q9.2.2.2.2 m_items m_itemMany m_seedThen m_groundThen m_widths m_sizes m_numbers m_moved (0 : Int32) q45 hq45) (cwV 1 hts gX7_readItem_X7_must rfl rfl rfl hd_X7_must ⟨Nat.le_of_ble_eq_true rfl, Nat.le_of_ble_eq_true rfl⟩) ⟨bl_M, va_recv hK hP (ci := 5) (q0 := 0) rfl k_md, pr_M rfl hB hP hS⟩ rfl rfl hl.1 rfl (lv_room (Nat.le_of_ble_eq_true rfl)) dX7_readItem_99 ⟨Nat.le_refl _, Nat.le_refl _⟩) hS rfl (fun hn46 H locs hP hS => ?_)
              have hP : va_P g.1 vwCl (mw g (m_now, m_kept, m_aside, m_isKept, m_found, m_steps, m_queue, m_lives, m_treads, m_tape, m_taped, q45.1, q45.2.1, q45.2.2.1, q45.2.2.2.1, q45.2.2.2.2, m_items, m_itemMany, m_seedThen, m_groundThen, m_widths, m_sizes, m_numbers, m_moved)) H := hP
              refine lv_aload_n hx hb dX7_readItem_102 rfl (lv_at hl 3 rfl) ?_
              refine lv_bipush (v := (11 : Int32)) hx hb dX7_readItem_103 (by decide) ?_
              refine lv_iload_n hx hb dX7_readItem_105 rfl (lv_at hl 0 rfl) ?_
              refine lv_aload_n hx hb dX7_readItem_106 rfl (lv_at hl 3 rfl) ?_
              refine lv_iconst (v := (0 : Int32)) hx hb dX7_readItem_107 (by decide) ?_
              refine lv_bipush (v := (99 : Int32)) hx hb dX7_readItem_108 (by decide) ?_
              obtain ⟨q47, hq47, hf⟩ := bd_some hf
              refine kr_W (st1 := [.int q47.1, .int q9.2.2.2.1, .int (11 : Int32), .ref (gm g 0)]) (va_runV (As := [.int (0 : Int32), .int (99 : Int32)]) (rest := [.int q9.2.2.2.1, .int (11 : Int32), .ref (gm g 0)]) ⟨hx, hb, hml, hown, hts⟩ (ct_X7_number l n g m_now m_kept m_aside m_isKept m_found m_steps m_queue m_lives m_treads m_tape m_taped q45.1 q45.2.1 q45.2.2.1 q45.2.2.2.1 q45.2.2.2.2 m_items m_itemMany m_seedThen m_groundThen m_widths m_sizes m_numbers m_moved (0 : Int32) (99 : Int32) q47 hq47) (cwV 2 hts gX7_readItem_X7_number rfl rfl rfl hd_X7_number ⟨Nat.le_of_ble_eq_true rfl, Nat.le_of_ble_eq_true rfl⟩) ⟨bl_M, va_recv hK hP (ci := 5) (q0 := 0) rfl k_md, pr_M rfl hB hP hS⟩ rfl rfl hl.1 rfl (lv_room (Nat.le_of_ble_eq_true rfl)) dX7_readItem_110 ⟨Nat.le_refl _, Nat.le_refl _⟩) hS rfl (fun hn48 H locs hP hS => ?_)
              have hP : va_P g.1 vwCl (mw g (m_now, m_kept, m_aside, m_isKept, m_found, m_steps, m_queue, m_lives, m_treads, m_tape, m_taped, q47.2.1, q47.2.2.1, q47.2.2.2.1, q47.2.2.2.2.1, q47.2.2.2.2.2, m_items, m_itemMany, m_seedThen, m_groundThen, m_widths, m_sizes, m_numbers, m_moved)) H := hP
              refine lv_iconst (v := (0 : Int32)) hx hb dX7_readItem_113 (by decide) ?_
              obtain ⟨q49, hq49, hf⟩ := bd_some hf
              refine kr_W (st1 := []) (va_runV (As := [.int (11 : Int32), .int q9.2.2.2.1, .int q47.1, .int (0 : Int32)]) (rest := []) ⟨hx, hb, hml, hown, hts⟩ (ct_X7_item l n g m_now m_kept m_aside m_isKept m_found m_steps m_queue m_lives m_treads m_tape m_taped q47.2.1 q47.2.2.1 q47.2.2.2.1 q47.2.2.2.2.1 q47.2.2.2.2.2 m_items m_itemMany m_seedThen m_groundThen m_widths m_sizes m_numbers m_moved (11 : Int32) q9.2.2.2.1 q47.1 (0 : Int32) q49 hq49) (cwV 4 hts gX7_readItem_X7_item rfl rfl rfl hd_X7_item ⟨Nat.le_of_ble_eq_true rfl, Nat.le_of_ble_eq_true rfl⟩) ⟨bl_M, va_recv hK hP (ci := 5) (q0 := 0) rfl k_md, pr_M rfl hB hP hS⟩ rfl rfl hl.1 rfl (lv_room (Nat.le_of_ble_eq_true rfl)) dX7_readItem_114 ⟨Nat.le_refl _, Nat.le_refl _⟩) hS rfl (fun hn50 H locs hP hS => ?_)
              have hP : va_P g.1 vwCl (mw g (m_now, m_kept, m_aside, m_isKept, m_found, m_steps, m_queue, m_lives, m_treads, m_tape, m_taped, q47.2.1, q47.2.2.1, q47.2.2.2.1, q47.2.2.2.2.1, q47.2.2.2.2.2, q49.1, q49.2, m_seedThen, m_groundThen, m_widths, m_sizes, m_numbers, m_moved)) H := hP
              have hres : (q47.2.1, q47.2.2.1, q47.2.2.2.1, q47.2.2.2.2.1, q47.2.2.2.2.2, q49.1, q49.2, m_seedThen, m_groundThen) = res := (Option.some.inj hf)
              have hP := w_eq (congrArg (fun z => mw g (m_now, m_kept, m_aside, m_isKept, m_found, m_steps, m_queue, m_lives, m_treads, m_tape, m_taped, z.1, z.2.1, z.2.2.1, z.2.2.2.1, z.2.2.2.2.1, z.2.2.2.2.2.1, z.2.2.2.2.2.2.1, z.2.2.2.2.2.2.2.1, z.2.2.2.2.2.2.2.2, m_widths, m_sizes, m_numbers, m_moved)) hres) hP
              exact W.vret hx hb hr (fun t ht hW => ⟨rfl, trivial, by rw [ht]; exact hP, hS.F ht⟩) hS.2.2 dX7_readItem_117
            · have hf := (if_pos hc44).symm.trans hf
              refine lv_iconst (v := (1 : Int32)) hx hb dX7_readItem_94 (by decide) ?_
              refine lv_goto (tgt := 99) hx hb dX7_readItem_95 (by decide) ?_
              obtain ⟨q51, hq51, hf⟩ := bd_some hf
              refine kr_W (st1 := []) (va_runV (As := [.int (1 : Int32)]) (rest := []) ⟨hx, hb, hml, hown, hts⟩ (ct_X7_must l n g m_now m_kept m_aside m_isKept m_found m_steps m_queue m_lives m_treads m_tape m_taped q9.1 q9.2.1 q9.2.2.1 q9.2.2.2.1 q9.2.2.2.2 m_items m_itemMany m_seedThen m_groundThen m_widths m_sizes m_numbers m_moved (1 : Int32) q51 hq51) (cwV 1 hts gX7_readItem_X7_must rfl rfl rfl hd_X7_must ⟨Nat.le_of_ble_eq_true rfl, Nat.le_of_ble_eq_true rfl⟩) ⟨bl_M, va_recv hK hP (ci := 5) (q0 := 0) rfl k_md, pr_M rfl hB hP hS⟩ rfl rfl hl.1 rfl (lv_room (Nat.le_of_ble_eq_true rfl)) dX7_readItem_99 ⟨Nat.le_refl _, Nat.le_refl _⟩) hS rfl (fun hn52 H locs hP hS => ?_)
              have hP : va_P g.1 vwCl (mw g (m_now, m_kept, m_aside, m_isKept, m_found, m_steps, m_queue, m_lives, m_treads, m_tape, m_taped, q51.1, q51.2.1, q51.2.2.1, q51.2.2.2.1, q51.2.2.2.2, m_items, m_itemMany, m_seedThen, m_groundThen, m_widths, m_sizes, m_numbers, m_moved)) H := hP
              refine lv_aload_n hx hb dX7_readItem_102 rfl (lv_at hl 3 rfl) ?_
              refine lv_bipush (v := (11 : Int32)) hx hb dX7_readItem_103 (by decide) ?_
              refine lv_iload_n hx hb dX7_readItem_105 rfl (lv_at hl 0 rfl) ?_
              refine lv_aload_n hx hb dX7_readItem_106 rfl (lv_at hl 3 rfl) ?_
              refine lv_iconst (v := (0 : Int32)) hx hb dX7_readItem_107 (by decide) ?_
              refine lv_bipush (v := (99 : Int32)) hx hb dX7_readItem_108 (by decide) ?_
              obtain ⟨q53, hq53, hf⟩ := bd_some hf
              refine kr_W (st1 := [.int q53.1, .int q9.2.2.2.1, .int (11 : Int32), .ref (gm g 0)]) (va_runV (As := [.int (0 : Int32), .int (99 : Int32)]) (rest := [.int q9.2.2.2.1, .int (11 : Int32), .ref (gm g 0)]) ⟨hx, hb, hml, hown, hts⟩ (ct_X7_number l n g m_now m_kept m_aside m_isKept m_found m_steps m_queue m_lives m_treads m_tape m_taped q51.1 q51.2.1 q51.2.2.1 q51.2.2.2.1 q51.2.2.2.2 m_items m_itemMany m_seedThen m_groundThen m_widths m_sizes m_numbers m_moved (0 : Int32) (99 : Int32) q53 hq53) (cwV 2 hts gX7_readItem_X7_number rfl rfl rfl hd_X7_number ⟨Nat.le_of_ble_eq_true rfl, Nat.le_of_ble_eq_true rfl⟩) ⟨bl_M, va_recv hK hP (ci := 5) (q0 := 0) rfl k_md, pr_M rfl hB hP hS⟩ rfl rfl hl.1 rfl (lv_room (Nat.le_of_ble_eq_true rfl)) dX7_readItem_110 ⟨Nat.le_refl _, Nat.le_refl _⟩) hS rfl (fun hn54 H locs hP hS => ?_)
              have hP : va_P g.1 vwCl (mw g (m_now, m_kept, m_aside, m_isKept, m_found, m_steps, m_queue, m_lives, m_treads, m_tape, m_taped, q53.2.1, q53.2.2.1, q53.2.2.2.1, q53.2.2.2.2.1, q53.2.2.2.2.2, m_items, m_itemMany, m_seedThen, m_groundThen, m_widths, m_sizes, m_numbers, m_moved)) H := hP
              refine lv_iconst (v := (0 : Int32)) hx hb dX7_readItem_113 (by decide) ?_
              obtain ⟨q55, hq55, hf⟩ := bd_some hf
              refine kr_W (st1 := []) (va_runV (As := [.int (11 : Int32), .int q9.2.2.2.1, .int q53.1, .int (0 : Int32)]) (rest := []) ⟨hx, hb, hml, hown, hts⟩ (ct_X7_item l n g m_now m_kept m_aside m_isKept m_found m_steps m_queue m_lives m_treads m_tape m_taped q53.2.1 q53.2.2.1 q53.2.2.2.1 q53.2.2.2.2.1 q53.2.2.2.2.2 m_items m_itemMany m_seedThen m_groundThen m_widths m_sizes m_numbers m_moved (11 : Int32) q9.2.2.2.1 q53.1 (0 : Int32) q55 hq55) (cwV 4 hts gX7_readItem_X7_item rfl rfl rfl hd_X7_item ⟨Nat.le_of_ble_eq_true rfl, Nat.le_of_ble_eq_true rfl⟩) ⟨bl_M, va_recv hK hP (ci := 5) (q0 := 0) rfl k_md, pr_M rfl hB hP hS⟩ rfl rfl hl.1 rfl (lv_room (Nat.le_of_ble_eq_true rfl)) dX7_readItem_114 ⟨Nat.le_refl _, Nat.le_refl _⟩) hS rfl (fun hn56 H locs hP hS => ?_)
              have hP : va_P g.1 vwCl (mw g (m_now, m_kept, m_aside, m_isKept, m_found, m_steps, m_queue, m_lives, m_treads, m_tape, m_taped, q53.2.1, q53.2.2.1, q53.2.2.2.1, q53.2.2.2.2.1, q53.2.2.2.2.2, q55.1, q55.2, m_seedThen, m_groundThen, m_widths, m_sizes, m_numbers, m_moved)) H := hP
              have hres : (q53.2.1, q53.2.2.1, q53.2.2.2.1, q53.2.2.2.2.1, q53.2.2.2.2.2, q55.1, q55.2, m_seedThen, m_groundThen) = res := (Option.some.inj hf)
              have hP := w_eq (congrArg (fun z => mw g (m_now, m_kept, m_aside, m_isKept, m_found, m_steps, m_queue, m_lives, m_treads, m_tape, m_taped, z.1, z.2.1, z.2.2.1, z.2.2.2.1, z.2.2.2.2.1, z.2.2.2.2.2.1, z.2.2.2.2.2.2.1, z.2.2.2.2.2.2.2.1, z.2.2.2.2.2.2.2.2, m_widths, m_sizes, m_numbers, m_moved)) hres) hP
              exact W.vret hx hb hr (fun t ht hW => ⟨rfl, trivial, by rw [ht]; exact hP, hS.F ht⟩) hS.2.2 dX7_readItem_117
    · have hf := (if_neg hc6).symm.trans hf
      refine lv_aload_n hx hb dX7_readItem_34 rfl (lv_at hl 2 rfl) ?_
      refine lv_iload_n hx hb dX7_readItem_35 rfl (lv_at hl 0 rfl) ?_
      obtain ⟨q57, hq57, hf⟩ := bd_some hf
      refine kr_W (st1 := []) (va_runV (As := [.int q3]) (rest := []) ⟨hx, hb, hml, hown, hts⟩ (ct_X7_readGround l n g m_now m_kept m_aside m_isKept m_found m_steps m_queue m_lives m_treads m_tape m_taped m_begins m_ends m_sort m_value m_isWrong m_items m_itemMany m_seedThen m_groundThen m_widths m_sizes m_numbers m_moved q3 q57 hq57) (cwV 1 hts gX7_readItem_X7_readGround rfl rfl rfl hd_X7_readGround ⟨Nat.le_of_ble_eq_true rfl, Nat.le_of_ble_eq_true rfl⟩) ⟨bl_M, va_recv hK hP (ci := 5) (q0 := 0) rfl k_md, pr_M rfl hB hP hS⟩ rfl rfl hl.1 rfl (lv_room (Nat.le_of_ble_eq_true rfl)) dX7_readItem_36 ⟨Nat.le_refl _, Nat.le_refl _⟩) hS rfl (fun hn58 H locs hP hS => ?_)
      have hP : va_P g.1 vwCl (mw g (m_now, m_kept, m_aside, m_isKept, m_found, m_steps, m_queue, m_lives, m_treads, m_tape, m_taped, q57.1, q57.2.1, q57.2.2.1, q57.2.2.2.1, q57.2.2.2.2.1, q57.2.2.2.2.2.1, q57.2.2.2.2.2.2.1, m_seedThen, q57.2.2.2.2.2.2.2, m_widths, m_sizes, m_numbers, m_moved)) H := hP
      refine lv_goto (tgt := 117) hx hb dX7_readItem_39 (by decide) ?_
      have hres : (q57.1, q57.2.1, q57.2.2.1, q57.2.2.2.1, q57.2.2.2.2.1, q57.2.2.2.2.2.1, q57.2.2.2.2.2.2.1, m_seedThen, q57.2.2.2.2.2.2.2) = res := (Option.some.inj hf)
      have hP := w_eq (congrArg (fun z => mw g (m_now, m_kept, m_aside, m_isKept, m_found, m_steps, m_queue, m_lives, m_treads, m_tape, m_taped, z.1, z.2.1, z.2.2.1, z.2.2.2.1, z.2.2.2.2.1, z.2.2.2.2.2.1, z.2.2.2.2.2.2.1, z.2.2.2.2.2.2.2.1, z.2.2.2.2.2.2.2.2, m_widths, m_sizes, m_numbers, m_moved)) hres) hP
      exact W.vret hx hb hr (fun t ht hW => ⟨rfl, trivial, by rw [ht]; exact hP, hS.F ht⟩) hS.2.2 dX7_readItem_117
  · have hf := (if_neg hc5).symm.trans hf
    refine lv_aload_n hx hb dX7_readItem_22 rfl (lv_at hl 2 rfl) ?_
    refine lv_iload_n hx hb dX7_readItem_23 rfl (lv_at hl 1 rfl) ?_
    obtain ⟨q59, hq59, hf⟩ := bd_some hf
    refine kr_W (st1 := []) (va_runV (As := [.int q1]) (rest := []) ⟨hx, hb, hml, hown, hts⟩ (ct_X7_readSeed l n g m_now m_kept m_aside m_isKept m_found m_steps m_queue m_lives m_treads m_tape m_taped m_begins m_ends m_sort m_value m_isWrong m_items m_itemMany m_seedThen m_groundThen m_widths m_sizes m_numbers m_moved q1 q59 hq59) (cwV 1 hts gX7_readItem_X7_readSeed rfl rfl rfl hd_X7_readSeed ⟨Nat.le_of_ble_eq_true rfl, Nat.le_of_ble_eq_true rfl⟩) ⟨bl_M, va_recv hK hP (ci := 5) (q0 := 0) rfl k_md, pr_M rfl hB hP hS⟩ rfl rfl hl.1 rfl (lv_room (Nat.le_of_ble_eq_true rfl)) dX7_readItem_24 ⟨Nat.le_refl _, Nat.le_refl _⟩) hS rfl (fun hn60 H locs hP hS => ?_)
    have hP : va_P g.1 vwCl (mw g (m_now, m_kept, m_aside, m_isKept, m_found, m_steps, m_queue, m_lives, m_treads, m_tape, m_taped, q59.1, q59.2.1, q59.2.2.1, q59.2.2.2.1, q59.2.2.2.2.1, q59.2.2.2.2.2.1, q59.2.2.2.2.2.2.1, q59.2.2.2.2.2.2.2, m_groundThen, m_widths, m_sizes, m_numbers, m_moved)) H := hP
    refine lv_goto (tgt := 117) hx hb dX7_readItem_27 (by decide) ?_
    have hres : (q59.1, q59.2.1, q59.2.2.1, q59.2.2.2.1, q59.2.2.2.2.1, q59.2.2.2.2.2.1, q59.2.2.2.2.2.2.1, q59.2.2.2.2.2.2.2, m_groundThen) = res := (Option.some.inj hf)
    have hP := w_eq (congrArg (fun z => mw g (m_now, m_kept, m_aside, m_isKept, m_found, m_steps, m_queue, m_lives, m_treads, m_tape, m_taped, z.1, z.2.1, z.2.2.1, z.2.2.2.1, z.2.2.2.2.1, z.2.2.2.2.2.1, z.2.2.2.2.2.2.1, z.2.2.2.2.2.2.2.1, z.2.2.2.2.2.2.2.2, m_widths, m_sizes, m_numbers, m_moved)) hres) hP
    exact W.vret hx hb hr (fun t ht hW => ⟨rfl, trivial, by rw [ht]; exact hP, hS.F ht⟩) hS.2.2 dX7_readItem_117
set_option maxHeartbeats 4000000 in
set_option maxRecDepth 100000 in
theorem ct_X7_isToldSo (l : Launch) (n : Nat) (g : GM) (m_now : Nat → Int32) (m_kept : Nat → Int32) (m_aside : Nat → Int32) (m_isKept : Int32) (m_found : Nat → Int32) (m_steps : Nat → Int32) (m_queue : Nat → Int32) (m_lives : Nat → Int32) (m_treads : Nat → Int32) (m_tape : Nat → Int32) (m_taped : Int32) (m_begins : Int32) (m_ends : Int32) (m_sort : Int32) (m_value : Int32) (m_isWrong : Int32) (m_items : Nat → Int32) (m_itemMany : Int32) (m_seedThen : Int32) (m_groundThen : Nat → Int32) (m_widths : Nat → Int32) (m_sizes : Nat → Int32) (m_numbers : Nat → Int32) (m_moved : Nat → Int32) (a1 : Int32) (res : Int32 × (Nat → Int32)) (hf : fX7_isToldSo n a1 m_now m_items = some res) : Met l yX7_isToldSo wsX7_isToldSo ({ frames := 2, cells := 0, slots := 0, locals := 46 }) (va_Pc [.ref (gm g 0), .int a1] (mI g (m_now, m_kept, m_aside, m_isKept, m_found, m_steps, m_queue, m_lives, m_treads, m_tape, m_taped, m_begins, m_ends, m_sort, m_value, m_isWrong, m_items, m_itemMany, m_seedThen, m_groundThen, m_widths, m_sizes, m_numbers, m_moved))) (qW (some (.int res.1)) True g.1 (mw g (res.2, m_kept, m_aside, m_isKept, m_found, m_steps, m_queue, m_lives, m_treads, m_tape, m_taped, m_begins, m_ends, m_sort, m_value, m_isWrong, m_items, m_itemMany, m_seedThen, m_groundThen, m_widths, m_sizes, m_numbers, m_moved)) (mA g)) 0 0 (mA g) := by
  refine Met.ofW (cc := cX7_isToldSo) (maxL := 4) (ret := (some .int)) (by decide) rfl ?_
  intro p e s m args below meth c s₁ B hml hv
  obtain ⟨rfl, hI⟩ := hv
  have hx := B.exec
  have hb := B.bytes
  have hr := B.returns
  have hts := atoms_spec (ws := wsX7_isToldSo) B.pre
  have hown : s.vm.findClass RX7 = some m.cls := findClass_of_methodNamed B.named
  have hlocks := B.notSynchronized
  have hP := hI.1
  have hB := hI.2
  have hK := hB.1
  have hNW := hB.2.1
  have hS : va_S (mA g) s.heap s.heap [] := va_S.rf
  have hw0 := hts (.fieldLink RX7 77 "SownPathsModel" "items" "[I") (by decide +kernel)
  have iwX7 : ∀ w ∈ wsX70, w ∈ wsX7_isToldSo := fun w h => List.mem_cons_of_mem _ (List.mem_append_right _ h)
  have hl := lv_entry ([.ref (gm g 0), .int a1]) (n := 4) (Nat.le_of_ble_eq_true rfl)
  rw [lg_entry_eq]
  generalize (lg_sl ([.ref (gm g 0), .int a1]) ++ List.replicate (4 - (lg_sl ([.ref (gm g 0), .int a1])).length) Slot.unset).toArray = ls at hl ⊢
  have hl : lv_has ls 4 [(0, .ref (gm g 0)), (1, .int a1)] := hl
  unfold fX7_isToldSo at hf
  refine lv_aload_n hx hb dX7_isToldSo_0 rfl (lv_at hl 0 rfl) ?_
  refine va_get (D := g.1) (ci := 5) (v := .ref (gm g 13)) (C := RX7) (T := TX7) (N := 27) hx hb hts iwX7 hown hK hP 0 k_md rfl 19 (by decide) hw0 (fun _ h9 => h9) rfl dX7_isToldSo_1 ?_
  refine lv_iload_n hx hb dX7_isToldSo_4 rfl (lv_at hl 1 rfl) ?_
  refine lv_iconst (v := (1 : Int32)) hx hb dX7_isToldSo_5 (by decide) ?_
  refine lv_iadd hx hb dX7_isToldSo_6 ?_
  obtain ⟨hg1, hf⟩ := gd_some hf
  refine va_iald (f := m_items) hx hb hK hP 13 0 k_items rfl hg1 dX7_isToldSo_7 ?_
  refine lv_istore_n (lv' := [(2, .int (m_items (a1 + (1 : Int32)).toNatClampNeg)), (0, .ref (gm g 0)), (1, .int a1)]) hx hb dX7_isToldSo_8 rfl hl (by decide) rfl (fun ls hl => ?_)
  refine lv_aload_n hx hb dX7_isToldSo_9 rfl (lv_at hl 1 rfl) ?_
  refine va_get (D := g.1) (ci := 5) (v := .ref (gm g 13)) (C := RX7) (T := TX7) (N := 27) hx hb hts iwX7 hown hK hP 0 k_md rfl 19 (by decide) hw0 (fun _ h9 => h9) rfl dX7_isToldSo_10 ?_
  refine lv_iload_n hx hb dX7_isToldSo_13 rfl (lv_at hl 2 rfl) ?_
  refine lv_iconst (v := (2 : Int32)) hx hb dX7_isToldSo_14 (by decide) ?_
  refine lv_iadd hx hb dX7_isToldSo_15 ?_
  obtain ⟨hg2, hf⟩ := gd_some hf
  refine va_iald (f := m_items) hx hb hK hP 13 0 k_items rfl hg2 dX7_isToldSo_16 ?_
  refine lv_istore_n (lv' := [(3, .int (m_items (a1 + (2 : Int32)).toNatClampNeg)), (2, .int (m_items (a1 + (1 : Int32)).toNatClampNeg)), (0, .ref (gm g 0)), (1, .int a1)]) hx hb dX7_isToldSo_17 rfl hl (by decide) rfl (fun ls hl => ?_)
  refine lv_aload_n hx hb dX7_isToldSo_18 rfl (lv_at hl 2 rfl) ?_
  refine va_get (D := g.1) (ci := 5) (v := .ref (gm g 13)) (C := RX7) (T := TX7) (N := 27) hx hb hts iwX7 hown hK hP 0 k_md rfl 19 (by decide) hw0 (fun _ h9 => h9) rfl dX7_isToldSo_19 ?_
  refine lv_iload_n hx hb dX7_isToldSo_22 rfl (lv_at hl 3 rfl) ?_
  obtain ⟨hg3, hf⟩ := gd_some hf
  refine va_iald (f := m_items) hx hb hK hP 13 0 k_items rfl hg3 dX7_isToldSo_23 ?_
  refine lv_bipush (v := (10 : Int32)) hx hb dX7_isToldSo_24 (by decide) ?_
  refine lv_icmp_ne (tgt := 38) hx hb dX7_isToldSo_26 (by decide) (fun hc4 => ?_) (fun hc4 => ?_)
  · have hf := (if_neg hc4).symm.trans hf
    refine lv_aload_n hx hb dX7_isToldSo_38 rfl (lv_at hl 2 rfl) ?_
    refine va_get (D := g.1) (ci := 5) (v := .ref (gm g 13)) (C := RX7) (T := TX7) (N := 27) hx hb hts iwX7 hown hK hP 0 k_md rfl 19 (by decide) hw0 (fun _ h9 => h9) rfl dX7_isToldSo_39 ?_
    refine lv_iload_n hx hb dX7_isToldSo_42 rfl (lv_at hl 3 rfl) ?_
    obtain ⟨hg5, hf⟩ := gd_some hf
    refine va_iald (f := m_items) hx hb hK hP 13 0 k_items rfl hg5 dX7_isToldSo_43 ?_
    refine lv_bipush (v := (11 : Int32)) hx hb dX7_isToldSo_44 (by decide) ?_
    refine lv_icmp_ne (tgt := 61) hx hb dX7_isToldSo_46 (by decide) (fun hc6 => ?_) (fun hc6 => ?_)
    · have hf := (if_neg hc6).symm.trans hf
      refine lv_aload_n hx hb dX7_isToldSo_61 rfl (lv_at hl 2 rfl) ?_
      refine lv_aload_n hx hb dX7_isToldSo_62 rfl (lv_at hl 2 rfl) ?_
      refine va_get (D := g.1) (ci := 5) (v := .ref (gm g 13)) (C := RX7) (T := TX7) (N := 27) hx hb hts iwX7 hown hK hP 0 k_md rfl 19 (by decide) hw0 (fun _ h9 => h9) rfl dX7_isToldSo_63 ?_
      refine lv_iload_n hx hb dX7_isToldSo_66 rfl (lv_at hl 3 rfl) ?_
      obtain ⟨hg7, hf⟩ := gd_some hf
      refine va_iald (f := m_items) hx hb hK hP 13 0 k_items rfl hg7 dX7_isToldSo_67 ?_
      refine lv_iload_n hx hb dX7_isToldSo_68 rfl (lv_at hl 1 rfl) ?_
      refine lv_iload_n hx hb dX7_isToldSo_69 rfl (lv_at hl 0 rfl) ?_
      refine lv_aload_n hx hb dX7_isToldSo_70 rfl (lv_at hl 2 rfl) ?_
      refine va_get (D := g.1) (ci := 5) (v := .ref (gm g 13)) (C := RX7) (T := TX7) (N := 27) hx hb hts iwX7 hown hK hP 0 k_md rfl 19 (by decide) hw0 (fun _ h9 => h9) rfl dX7_isToldSo_71 ?_
      refine lv_iload_n hx hb dX7_isToldSo_74 rfl (lv_at hl 3 rfl) ?_
      refine lv_iconst (v := (3 : Int32)) hx hb dX7_isToldSo_75 (by decide) ?_
      refine lv_iadd hx hb dX7_isToldSo_76 ?_
      obtain ⟨hg8, hf⟩ := gd_some hf
      refine va_iald (f := m_items) hx hb hK hP 13 0 k_items rfl hg8 dX7_isToldSo_77 ?_
      obtain ⟨q9, hq9, hf⟩ := bd_some hf
      refine kr_W (st1 := [.int q9.1]) (va_runV (As := [.int (m_items a1.toNatClampNeg), .int (m_items (a1 + (1 : Int32)).toNatClampNeg), .int (m_items (a1 + (2 : Int32)).toNatClampNeg), .int (m_items (a1 + (3 : Int32)).toNatClampNeg)]) (rest := []) ⟨hx, hb, hml, hown, hts⟩ (ct_X7_comes l n g m_now m_kept m_aside m_isKept m_found m_steps m_queue m_lives m_treads m_tape m_taped m_begins m_ends m_sort m_value m_isWrong m_items m_itemMany m_seedThen m_groundThen m_widths m_sizes m_numbers m_moved (m_items a1.toNatClampNeg) (m_items (a1 + (1 : Int32)).toNatClampNeg) (m_items (a1 + (2 : Int32)).toNatClampNeg) (m_items (a1 + (3 : Int32)).toNatClampNeg) q9 hq9) (cwV 4 hts gX7_isToldSo_X7_comes rfl rfl rfl hd_X7_comes ⟨Nat.le_of_ble_eq_true rfl, Nat.le_of_ble_eq_true rfl⟩) ⟨bl_M, va_recv hK hP (ci := 5) (q0 := 0) rfl k_md, pr_M rfl hB hP hS⟩ rfl rfl hl.1 rfl (lv_room (Nat.le_of_ble_eq_true rfl)) dX7_isToldSo_78 ⟨Nat.le_refl _, Nat.le_refl _⟩) hS rfl (fun hn10 H locs hP hS => ?_)
      have hP : va_P g.1 vwCl (mw g (q9.2, m_kept, m_aside, m_isKept, m_found, m_steps, m_queue, m_lives, m_treads, m_tape, m_taped, m_begins, m_ends, m_sort, m_value, m_isWrong, m_items, m_itemMany, m_seedThen, m_groundThen, m_widths, m_sizes, m_numbers, m_moved)) H := hP
      have hres : (q9.1, q9.2) = res := (Option.some.inj hf)
      have hP := w_eq (congrArg (fun z => mw g (z.2, m_kept, m_aside, m_isKept, m_found, m_steps, m_queue, m_lives, m_treads, m_tape, m_taped, m_begins, m_ends, m_sort, m_value, m_isWrong, m_items, m_itemMany, m_seedThen, m_groundThen, m_widths, m_sizes, m_numbers, m_moved)) hres) hP
      exact W.iret (v := q9.1) hx hb hr (fun t ht hW => ⟨congrArg (fun z => Outcome.returned (some (Value.int z.1))) hres, trivial, by rw [ht]; exact hP, hS.F ht⟩) hS.2.2 dX7_isToldSo_81
    · have hf := (if_pos hc6).symm.trans hf
      refine lv_aload_n hx hb dX7_isToldSo_49 rfl (lv_at hl 2 rfl) ?_
      refine lv_bipush (v := (49 : Int32)) hx hb dX7_isToldSo_50 (by decide) ?_
      refine lv_iload_n hx hb dX7_isToldSo_52 rfl (lv_at hl 1 rfl) ?_
      refine lv_iadd hx hb dX7_isToldSo_53 ?_
      refine lv_iload_n hx hb dX7_isToldSo_54 rfl (lv_at hl 0 rfl) ?_
      obtain ⟨q11, hq11, hf⟩ := bd_some hf
      refine kr_W (st1 := [.int q11.1]) (va_runV (As := [.int ((49 : Int32) + (m_items (a1 + (1 : Int32)).toNatClampNeg)), .int (m_items (a1 + (2 : Int32)).toNatClampNeg)]) (rest := []) ⟨hx, hb, hml, hown, hts⟩ (ct_X7_become l n g m_now m_kept m_aside m_isKept m_found m_steps m_queue m_lives m_treads m_tape m_taped m_begins m_ends m_sort m_value m_isWrong m_items m_itemMany m_seedThen m_groundThen m_widths m_sizes m_numbers m_moved ((49 : Int32) + (m_items (a1 + (1 : Int32)).toNatClampNeg)) (m_items (a1 + (2 : Int32)).toNatClampNeg) q11 hq11) (cwV 2 hts gX7_isToldSo_X7_become rfl rfl rfl hd_X7_become ⟨Nat.le_of_ble_eq_true rfl, Nat.le_of_ble_eq_true rfl⟩) ⟨bl_M, va_recv hK hP (ci := 5) (q0 := 0) rfl k_md, pr_M rfl hB hP hS⟩ rfl rfl hl.1 rfl (lv_room (Nat.le_of_ble_eq_true rfl)) dX7_isToldSo_55 ⟨Nat.le_refl _, Nat.le_refl _⟩) hS rfl (fun hn12 H locs hP hS => ?_)
      have hP : va_P g.1 vwCl (mw g (q11.2, m_kept, m_aside, m_isKept, m_found, m_steps, m_queue, m_lives, m_treads, m_tape, m_taped, m_begins, m_ends, m_sort, m_value, m_isWrong, m_items, m_itemMany, m_seedThen, m_groundThen, m_widths, m_sizes, m_numbers, m_moved)) H := hP
      refine lv_goto (tgt := 81) hx hb dX7_isToldSo_58 (by decide) ?_
      have hres : (q11.1, q11.2) = res := (Option.some.inj hf)
      have hP := w_eq (congrArg (fun z => mw g (z.2, m_kept, m_aside, m_isKept, m_found, m_steps, m_queue, m_lives, m_treads, m_tape, m_taped, m_begins, m_ends, m_sort, m_value, m_isWrong, m_items, m_itemMany, m_seedThen, m_groundThen, m_widths, m_sizes, m_numbers, m_moved)) hres) hP
      exact W.iret (v := q11.1) hx hb hr (fun t ht hW => ⟨congrArg (fun z => Outcome.returned (some (Value.int z.1))) hres, trivial, by rw [ht]; exact hP, hS.F ht⟩) hS.2.2 dX7_isToldSo_81
  · have hf := (if_pos hc4).symm.trans hf
    refine lv_aload_n hx hb dX7_isToldSo_29 rfl (lv_at hl 2 rfl) ?_
    refine lv_iload_n hx hb dX7_isToldSo_30 rfl (lv_at hl 1 rfl) ?_
    refine lv_iload_n hx hb dX7_isToldSo_31 rfl (lv_at hl 0 rfl) ?_
    obtain ⟨q13, hq13, hf⟩ := bd_some hf
    refine kr_W (st1 := [.int q13.1]) (va_runV (As := [.int (m_items (a1 + (1 : Int32)).toNatClampNeg), .int (m_items (a1 + (2 : Int32)).toNatClampNeg)]) (rest := []) ⟨hx, hb, hml, hown, hts⟩ (ct_X7_lay l n g m_now m_kept m_aside m_isKept m_found m_steps m_queue m_lives m_treads m_tape m_taped m_begins m_ends m_sort m_value m_isWrong m_items m_itemMany m_seedThen m_groundThen m_widths m_sizes m_numbers m_moved (m_items (a1 + (1 : Int32)).toNatClampNeg) (m_items (a1 + (2 : Int32)).toNatClampNeg) q13 hq13) (cwV 2 hts gX7_isToldSo_X7_lay rfl rfl rfl hd_X7_lay ⟨Nat.le_of_ble_eq_true rfl, Nat.le_of_ble_eq_true rfl⟩) ⟨bl_M, va_recv hK hP (ci := 5) (q0 := 0) rfl k_md, pr_M rfl hB hP hS⟩ rfl rfl hl.1 rfl (lv_room (Nat.le_of_ble_eq_true rfl)) dX7_isToldSo_32 ⟨Nat.le_refl _, Nat.le_refl _⟩) hS rfl (fun hn14 H locs hP hS => ?_)
    have hP : va_P g.1 vwCl (mw g (q13.2, m_kept, m_aside, m_isKept, m_found, m_steps, m_queue, m_lives, m_treads, m_tape, m_taped, m_begins, m_ends, m_sort, m_value, m_isWrong, m_items, m_itemMany, m_seedThen, m_groundThen, m_widths, m_sizes, m_numbers, m_moved)) H := hP
    refine lv_goto (tgt := 81) hx hb dX7_isToldSo_35 (by decide) ?_
    have hres : (q13.1, q13.2) = res := (Option.some.inj hf)
    have hP := w_eq (congrArg (fun z => mw g (z.2, m_kept, m_aside, m_isKept, m_found, m_steps, m_queue, m_lives, m_treads, m_tape, m_taped, m_begins, m_ends, m_sort, m_value, m_isWrong, m_items, m_itemMany, m_seedThen, m_groundThen, m_widths, m_sizes, m_numbers, m_moved)) hres) hP
    exact W.iret (v := q13.1) hx hb hr (fun t ht hW => ⟨congrArg (fun z => Outcome.returned (some (Value.int z.1))) hres, trivial, by rw [ht]; exact hP, hS.F ht⟩) hS.2.2 dX7_isToldSo_81
